theorem rc_X8_63 {p : Program} {l : Launch} {e : Env} {R : Room} {s : State} {m : MethodId} {args : Array Value} {below : List Frame} {meth : Method} {c : Code} {H : Heap} {locs : List Loc} {cells slots : Nat} {Q : State → Prop} {cc : ByteArray} {pc nL : Nat} {ls : Array Slot} {rest : List Value} {G : lb_G} {σ : lb_Mem} {ret : Option FieldType} (X : lb_C G p s m args meth c cc nL RX8 ret) (hW : lb_W G s σ H locs) {qr : Int32} (h : f_X4_wrongPlace σ = some qr) (hR : lb_room rmX4_wrongPlace R 4) (hls : ls.size = nL) (hrest : (rest.map fun v => v.category).sum ≤ 8) (d : decode cc pc = .ok (.invokevirtual 63, 3)) (hcap : cells ≤ R.cells ∧ slots ≤ R.slots) (kk : ∀ (H1 : Heap) (locs1 : List Loc), lb_W G s σ H1 locs1 → W p l e R s m args below meth c H1 locs1 cells slots Q (F0 m (pc + 3) ls (.int qr :: rest))) : W p l e R s m args below meth c H locs cells slots Q (F0 m pc ls (.ref (lb_ad G 49) :: rest)) :=
  lb_goI hW (lb_runV (As := []) X hW (m_X4_wrongPlace l G σ qr h) (n := 0) ⟨qw_228, qw_51, qw_231, by decide +kernel⟩ hR qw_229 qw_230 lb_is49 rfl hls hrest d hcap) kk
theorem rc_X8_67 {p : Program} {l : Launch} {e : Env} {R : Room} {s : State} {m : MethodId} {args : Array Value} {below : List Frame} {meth : Method} {c : Code} {H : Heap} {locs : List Loc} {cells slots : Nat} {Q : State → Prop} {cc : ByteArray} {pc nL : Nat} {ls : Array Slot} {rest : List Value} {G : lb_G} {σ : lb_Mem} {ret : Option FieldType} (X : lb_C G p s m args meth c cc nL RX8 ret) (hW : lb_W G s σ H locs) {b0 : Nat} (hb0 : lb_V b0) {b1 : Nat} (hb1 : lb_V b1) {qr : lb_Mem} (h : f_X7_become b0 b1 σ = some qr) (hR : lb_room rmX7_become R 2) (hls : ls.size = nL) (hrest : (rest.map fun v => v.category).sum ≤ 8) (d : decode cc pc = .ok (.invokevirtual 67, 3)) (hcap : cells ≤ R.cells ∧ slots ≤ R.slots) (kk : ∀ (H1 : Heap) (locs1 : List Loc), lb_W G s qr H1 locs1 → W p l e R s m args below meth c H1 locs1 cells slots Q (F0 m (pc + 3) ls rest)) : W p l e R s m args below meth c H locs cells slots Q (F0 m pc ls (.ref (lb_ad G b1) :: .ref (lb_ad G b0) :: rest)) :=
  lb_goV hW (lb_runV (As := [.ref (lb_ad G b1)]) X hW (m_X7_become l G σ hb0 hb1 qr h) (n := 1) ⟨qw_342, qw_44, qw_345, by decide +kernel⟩ hR qw_343 qw_344 (lb_isV hb0) rfl hls hrest d hcap) kk
theorem rc_X8_71 {p : Program} {l : Launch} {e : Env} {R : Room} {s : State} {m : MethodId} {args : Array Value} {below : List Frame} {meth : Method} {c : Code} {H : Heap} {locs : List Loc} {cells slots : Nat} {Q : State → Prop} {cc : ByteArray} {pc nL : Nat} {ls : Array Slot} {rest : List Value} {G : lb_G} {σ : lb_Mem} {ret : Option FieldType} (X : lb_C G p s m args meth c cc nL RX8 ret) (hW : lb_W G s σ H locs) {b2 : Nat} (hb2 : lb_V b2) {x1 : Int32} {qr : (Int32 × lb_Mem)} (h : f_X4_isObeyed b2 x1 σ = some qr) (hR : lb_room rmX4_isObeyed R 7) (hls : ls.size = nL) (hrest : (rest.map fun v => v.category).sum ≤ 8) (d : decode cc pc = .ok (.invokevirtual 71, 3)) (hcap : cells ≤ R.cells ∧ slots ≤ R.slots) (kk : ∀ (H1 : Heap) (locs1 : List Loc), lb_W G s qr.2 H1 locs1 → W p l e R s m args below meth c H1 locs1 cells slots Q (F0 m (pc + 3) ls (.int qr.1 :: rest))) : W p l e R s m args below meth c H locs cells slots Q (F0 m pc ls (.ref (lb_ad G b2) :: .int x1 :: .ref (lb_ad G 49) :: rest)) :=
  lb_goI hW (lb_runV (As := [.int x1, .ref (lb_ad G b2)]) X hW (m_X4_isObeyed l G σ hb2 x1 qr h) (n := 2) ⟨qw_349, qw_51, qw_352, by decide +kernel⟩ hR qw_350 qw_351 lb_is49 rfl hls hrest d hcap) kk
theorem rc_X8_75 {p : Program} {l : Launch} {e : Env} {R : Room} {s : State} {m : MethodId} {args : Array Value} {below : List Frame} {meth : Method} {c : Code} {H : Heap} {locs : List Loc} {cells slots : Nat} {Q : State → Prop} {cc : ByteArray} {pc nL : Nat} {ls : Array Slot} {rest : List Value} {G : lb_G} {σ : lb_Mem} {ret : Option FieldType} (X : lb_C G p s m args meth c cc nL RX8 ret) (hW : lb_W G s σ H locs) {x1 : Int32} {qr : Int32} (h : f_X4_lengthAt σ x1 = some qr) (hR : lb_room rmX4_lengthAt R 2) (hls : ls.size = nL) (hrest : (rest.map fun v => v.category).sum ≤ 8) (d : decode cc pc = .ok (.invokevirtual 75, 3)) (hcap : cells ≤ R.cells ∧ slots ≤ R.slots) (kk : ∀ (H1 : Heap) (locs1 : List Loc), lb_W G s σ H1 locs1 → W p l e R s m args below meth c H1 locs1 cells slots Q (F0 m (pc + 3) ls (.int qr :: rest))) : W p l e R s m args below meth c H locs cells slots Q (F0 m pc ls (.int x1 :: .ref (lb_ad G 49) :: rest)) :=
  lb_goI hW (lb_runV (As := [.int x1]) X hW (m_X4_lengthAt l G σ x1 qr h) (n := 1) ⟨qw_453, qw_51, qw_235, by decide +kernel⟩ hR qw_233 qw_234 lb_is49 rfl hls hrest d hcap) kk
abbrev rmX8_village : Room := { frames := 8, cells := 0, slots := 0, locals := 197 }
def f_X8_village_110 (x2 : Int32) (σ : lb_Mem) : Option (Int32 × lb_Mem) := lb_let (lb_sto σ 49 1 (0 : Int32)) (fun s115 : lb_Mem => some (x2, s115))
set_option maxRecDepth 20000 in
set_option maxHeartbeats 4000000 in
theorem w_X8_village_110 {p : Program} {l : Launch} {e : Env} {s : State} {m : MethodId} {args : Array Value} {below : List Frame} {meth : Method} {c : Code} {G : lb_G} {qr : (Int32 × lb_Mem)} (X : lb_C G p s m args meth c cX8_village 4 RX8 (some .int)) : ∀ (x2 : Int32) (σ : lb_Mem) (H : Heap) (locs : List Loc) (ls : Array Slot), f_X8_village_110 x2 σ = some qr → lb_W G s σ H locs → lv_has ls 4 [(0, .ref (lb_ad G 0)), (2, .int x2)] → W p l e rmX8_village s m args below meth c H locs 0 0 (MQ below (lb_QI G qr.1 qr.2) args s 0 0 (lb_A G)) (F0 m 110 ls []) := by
  have hx := X.1
  have hb := X.2.1
  intro x2 σ H locs ls h hW hl
  have h : (lb_let (lb_sto σ 49 1 (0 : Int32)) (fun s115 : lb_Mem => some (x2, s115))) = some qr := h
  refine lv_aload_n hx hb dX8_village_110 rfl (lv_at hl 0 rfl) ?_
  refine rg_X8_29 X hW dX8_village_111 ?_
  refine lv_iconst (v := 0) hx hb dX8_village_114 rfl ?_
  refine rp_X8_48 X hW dX8_village_115 (fun H locs hW => ?_)
  obtain ⟨s115, e115⟩ : ∃ z, z = lb_sto σ 49 1 (0 : Int32) := ⟨_, rfl⟩
  rw [← e115] at hW
  have h := lb_letI e115 h
  refine lv_iload_n hx hb dX8_village_118 rfl (lv_at hl 1 rfl) ?_
  obtain rfl := Option.some.inj h
  exact lb_iret X hW dX8_village_119
def f_X8_village_95 (x2 : Int32) (σ : lb_Mem) : Option (Int32 × lb_Mem) := if x2 ≤ 0 then f_X8_village_110 x2 σ else (f_X7_become 1 17 σ).bind (fun s107 => f_X8_village_110 x2 s107)
set_option maxRecDepth 20000 in
set_option maxHeartbeats 4000000 in
theorem w_X8_village_95 {p : Program} {l : Launch} {e : Env} {s : State} {m : MethodId} {args : Array Value} {below : List Frame} {meth : Method} {c : Code} {G : lb_G} {qr : (Int32 × lb_Mem)} (X : lb_C G p s m args meth c cX8_village 4 RX8 (some .int)) : ∀ (x2 : Int32) (σ : lb_Mem) (H : Heap) (locs : List Loc) (ls : Array Slot), f_X8_village_95 x2 σ = some qr → lb_W G s σ H locs → lv_has ls 4 [(0, .ref (lb_ad G 0)), (2, .int x2)] → W p l e rmX8_village s m args below meth c H locs 0 0 (MQ below (lb_QI G qr.1 qr.2) args s 0 0 (lb_A G)) (F0 m 95 ls []) := by
  have hx := X.1
  have hb := X.2.1
  intro x2 σ H locs ls h hW hl
  have h : (if x2 ≤ 0 then f_X8_village_110 x2 σ else (f_X7_become 1 17 σ).bind (fun s107 => f_X8_village_110 x2 s107)) = some qr := h
  refine lv_iload_n hx hb dX8_village_95 rfl (lv_at hl 1 rfl) ?_
  refine lv_if_le (tgt := 110) hx hb dX8_village_96 (by decide) (fun c96 => ?_) (fun c96 => ?_)
  · have h := (if_pos c96).symm.trans h
    exact w_X8_village_110 X x2 σ _ _ _ h hW (lv_sub hl [0, 1] rfl)
  · have h := (if_neg c96).symm.trans h
    refine lv_aload_n hx hb dX8_village_99 rfl (lv_at hl 0 rfl) ?_
    refine rg_X8_10 X hW dX8_village_100 ?_
    refine lv_aload_n hx hb dX8_village_103 rfl (lv_at hl 0 rfl) ?_
    refine rg_X8_16 X hW dX8_village_104 ?_
    obtain ⟨s107, e107, h⟩ := lb_bind h
    refine rc_X8_67 X hW lb_V1 lb_V17 e107 ⟨⟨rfl, rfl⟩, Nat.le_of_ble_eq_true rfl, Nat.le_of_ble_eq_true rfl⟩ hl.1 (Nat.le_of_ble_eq_true rfl) dX8_village_107 ⟨Nat.zero_le _, Nat.zero_le _⟩ (fun H locs hW => ?_)
    exact w_X8_village_110 X x2 s107 _ _ _ h hW (lv_sub hl [0, 1] rfl)
def f_X8_village_76 (kc35 : Int32 → Int32 → lb_Mem → Option (Int32 × lb_Mem)) (x3 : Int32) (σ : lb_Mem) (y0 : Int32) : Option (Int32 × lb_Mem) := (f_X4_lengthAt σ x3).bind (fun q84 => lb_let ((x3 + (if (1 : Int32) < q84 then q84 else (1 : Int32)))) (fun v91 : Int32 => kc35 y0 v91 σ))
set_option maxRecDepth 20000 in
set_option maxHeartbeats 4000000 in
theorem w_X8_village_76 {p : Program} {l : Launch} {e : Env} {s : State} {m : MethodId} {args : Array Value} {below : List Frame} {meth : Method} {c : Code} {G : lb_G} {qr : (Int32 × lb_Mem)} (X : lb_C G p s m args meth c cX8_village 4 RX8 (some .int)) {kc35 : Int32 → Int32 → lb_Mem → Option (Int32 × lb_Mem)} (hc35 : ∀ (x2 : Int32) (x3 : Int32) (σ : lb_Mem) (H : Heap) (locs : List Loc) (ls : Array Slot), kc35 x2 x3 σ = some qr → lb_W G s σ H locs → lv_has ls 4 [(0, .ref (lb_ad G 0)), (2, .int x2), (3, .int x3)] → W p l e rmX8_village s m args below meth c H locs 0 0 (MQ below (lb_QI G qr.1 qr.2) args s 0 0 (lb_A G)) (F0 m 35 ls [])) : ∀ (x3 : Int32) (σ : lb_Mem) (y0 : Int32) (H : Heap) (locs : List Loc) (ls : Array Slot), f_X8_village_76 kc35 x3 σ y0 = some qr → lb_W G s σ H locs → lv_has ls 4 [(0, .ref (lb_ad G 0)), (3, .int x3)] → W p l e rmX8_village s m args below meth c H locs 0 0 (MQ below (lb_QI G qr.1 qr.2) args s 0 0 (lb_A G)) (F0 m 76 ls [.int y0]) := by
  have hx := X.1
  have hb := X.2.1
  intro x3 σ y0 H locs ls h hW hl
  have h : ((f_X4_lengthAt σ x3).bind (fun q84 => lb_let ((x3 + (if (1 : Int32) < q84 then q84 else (1 : Int32)))) (fun v91 : Int32 => kc35 y0 v91 σ))) = some qr := h
  refine lv_istore_n (lv' := [(2, .int y0), (0, .ref (lb_ad G 0)), (3, .int x3)]) hx hb dX8_village_76 rfl hl (by decide) rfl (fun ls hl => ?_)
  refine lv_iload_n hx hb dX8_village_77 rfl (lv_at hl 2 rfl) ?_
  refine lv_iconst (v := 1) hx hb dX8_village_78 rfl ?_
  refine lv_aload_n hx hb dX8_village_79 rfl (lv_at hl 1 rfl) ?_
  refine rg_X8_29 X hW dX8_village_80 ?_
  refine lv_iload_n hx hb dX8_village_83 rfl (lv_at hl 2 rfl) ?_
  obtain ⟨q84, e84, h⟩ := lb_bind h
  refine rc_X8_75 X hW e84 ⟨⟨rfl, rfl⟩, Nat.le_of_ble_eq_true rfl, Nat.le_of_ble_eq_true rfl⟩ hl.1 (Nat.le_of_ble_eq_true rfl) dX8_village_84 ⟨Nat.zero_le _, Nat.zero_le _⟩ (fun H locs hW => ?_)
  refine va_mmax hx hb (by rw [X.2.2.1]; exact hl.1.symm) X.2.2.2.1 (X.2.2.2.2.1 _ qw_454) (X.2.2.2.2.1 _ qw_278) (X.2.2.2.2.1 _ qw_55) (X.2.2.2.2.1 _ qw_279) (Nat.le_of_ble_eq_true rfl) (Nat.le_of_ble_eq_true rfl) (Nat.zero_le _) (Nat.zero_le _) dX8_village_87 ?_
  refine lv_iadd hx hb dX8_village_90 ?_
  refine lv_topi (fun v91 e91 => ?_)
  have h := lb_letI e91 h
  refine lv_istore_n (lv' := [(3, .int v91), (2, .int y0), (0, .ref (lb_ad G 0))]) hx hb dX8_village_91 rfl hl (by decide) rfl (fun ls hl => ?_)
  refine lv_goto (tgt := 35) hx hb dX8_village_92 (by decide) ?_
  exact hc35 y0 v91 σ _ _ _ h hW (lv_sub hl [2, 1, 0] rfl)
def f_X8_village_35 : Nat → Int32 → Int32 → lb_Mem → Option (Int32 × lb_Mem)
  | 0, _, _, _ => none
  | n + 1, x2, x3, σ => if (σ 49 1) ≤ x3 then f_X8_village_95 x2 σ else if x2 < 0 then f_X8_village_95 x2 σ else (f_X4_isObeyed 17 x3 σ).bind (fun q59 => if q59.1 = 0 then f_X8_village_76 (fun (x2 : Int32) (x3 : Int32) (σ : lb_Mem) => f_X8_village_35 n x2 x3 σ) x3 q59.2 ((-2000 : Int32) - x3) else f_X8_village_76 (fun (x2 : Int32) (x3 : Int32) (σ : lb_Mem) => f_X8_village_35 n x2 x3 σ) x3 q59.2 (x2 + (1 : Int32)))
set_option maxRecDepth 20000 in
set_option maxHeartbeats 4000000 in
theorem w_X8_village_35 {p : Program} {l : Launch} {e : Env} {s : State} {m : MethodId} {args : Array Value} {below : List Frame} {meth : Method} {c : Code} {G : lb_G} {qr : (Int32 × lb_Mem)} (X : lb_C G p s m args meth c cX8_village 4 RX8 (some .int)) : ∀ (n : Nat) (x2 : Int32) (x3 : Int32) (σ : lb_Mem) (H : Heap) (locs : List Loc) (ls : Array Slot), f_X8_village_35 n x2 x3 σ = some qr → lb_W G s σ H locs → lv_has ls 4 [(0, .ref (lb_ad G 0)), (2, .int x2), (3, .int x3)] → W p l e rmX8_village s m args below meth c H locs 0 0 (MQ below (lb_QI G qr.1 qr.2) args s 0 0 (lb_A G)) (F0 m 35 ls []) := by
  have hx := X.1
  have hb := X.2.1
  intro n
  induction n with
  | zero => intro x2 x3 σ H locs ls h hW hl; exact absurd h (fun z => by cases z)
  | succ n ih =>
    intro x2 x3 σ H locs ls h hW hl
    have h : (if (σ 49 1) ≤ x3 then f_X8_village_95 x2 σ else if x2 < 0 then f_X8_village_95 x2 σ else (f_X4_isObeyed 17 x3 σ).bind (fun q59 => if q59.1 = 0 then f_X8_village_76 (fun (x2 : Int32) (x3 : Int32) (σ : lb_Mem) => f_X8_village_35 n x2 x3 σ) x3 q59.2 ((-2000 : Int32) - x3) else f_X8_village_76 (fun (x2 : Int32) (x3 : Int32) (σ : lb_Mem) => f_X8_village_35 n x2 x3 σ) x3 q59.2 (x2 + (1 : Int32)))) = some qr := h
    refine lv_iload_n hx hb dX8_village_35 rfl (lv_at hl 2 rfl) ?_
    refine lv_aload_n hx hb dX8_village_36 rfl (lv_at hl 0 rfl) ?_
    refine rg_X8_29 X hW dX8_village_37 ?_
    refine rg_X8_48 X hW dX8_village_40 ?_
    refine lv_icmp_ge (tgt := 95) hx hb dX8_village_43 (by decide) (fun c43 => ?_) (fun c43 => ?_)
    · have h := (if_pos c43).symm.trans h
      exact w_X8_village_95 X x2 σ _ _ _ h hW (lv_sub hl [0, 1] rfl)
    · have h := (if_neg c43).symm.trans h
      refine lv_iload_n hx hb dX8_village_46 rfl (lv_at hl 1 rfl) ?_
      refine lv_if_lt (tgt := 95) hx hb dX8_village_47 (by decide) (fun c47 => ?_) (fun c47 => ?_)
      · have h := (if_pos c47).symm.trans h
        exact w_X8_village_95 X x2 σ _ _ _ h hW (lv_sub hl [0, 1] rfl)
      · have h := (if_neg c47).symm.trans h
        refine lv_aload_n hx hb dX8_village_50 rfl (lv_at hl 0 rfl) ?_
        refine rg_X8_29 X hW dX8_village_51 ?_
        refine lv_iload_n hx hb dX8_village_54 rfl (lv_at hl 2 rfl) ?_
        refine lv_aload_n hx hb dX8_village_55 rfl (lv_at hl 0 rfl) ?_
        refine rg_X8_16 X hW dX8_village_56 ?_
        obtain ⟨q59, e59, h⟩ := lb_bind h
        refine rc_X8_71 X hW lb_V17 e59 ⟨⟨rfl, rfl⟩, Nat.le_of_ble_eq_true rfl, Nat.le_of_ble_eq_true rfl⟩ hl.1 (Nat.le_of_ble_eq_true rfl) dX8_village_59 ⟨Nat.zero_le _, Nat.zero_le _⟩ (fun H locs hW => ?_)
        refine lv_if_eq (tgt := 71) hx hb dX8_village_62 (by decide) (fun c62 => ?_) (fun c62 => ?_)
        · have h := (if_pos c62).symm.trans h
          refine lv_sipush (v := -2000) hx hb dX8_village_71 rfl ?_
          refine lv_iload_n hx hb dX8_village_74 rfl (lv_at hl 2 rfl) ?_
          refine lv_isub hx hb dX8_village_75 ?_
          exact w_X8_village_76 X ih x3 q59.2 ((-2000 : Int32) - x3) _ _ _ h hW (lv_sub hl [0, 2] rfl)
        · have h := (if_neg c62).symm.trans h
          refine lv_iload_n hx hb dX8_village_65 rfl (lv_at hl 1 rfl) ?_
          refine lv_iconst (v := 1) hx hb dX8_village_66 rfl ?_
          refine lv_iadd hx hb dX8_village_67 ?_
          refine lv_goto (tgt := 76) hx hb dX8_village_68 (by decide) ?_
          exact w_X8_village_76 X ih x3 q59.2 (x2 + (1 : Int32)) _ _ _ h hW (lv_sub hl [0, 2] rfl)
def f_X8_village_21 (σ : lb_Mem) (y0 : Int32) : Option (Int32 × lb_Mem) := (f_X7_become 17 1 σ).bind (fun s30 => f_X8_village_35 lb_N y0 (0 : Int32) s30)
set_option maxRecDepth 20000 in
set_option maxHeartbeats 4000000 in
theorem w_X8_village_21 {p : Program} {l : Launch} {e : Env} {s : State} {m : MethodId} {args : Array Value} {below : List Frame} {meth : Method} {c : Code} {G : lb_G} {qr : (Int32 × lb_Mem)} (X : lb_C G p s m args meth c cX8_village 4 RX8 (some .int)) : ∀ (σ : lb_Mem) (y0 : Int32) (H : Heap) (locs : List Loc) (ls : Array Slot), f_X8_village_21 σ y0 = some qr → lb_W G s σ H locs → lv_has ls 4 [(0, .ref (lb_ad G 0))] → W p l e rmX8_village s m args below meth c H locs 0 0 (MQ below (lb_QI G qr.1 qr.2) args s 0 0 (lb_A G)) (F0 m 21 ls [.int y0]) := by
  have hx := X.1
  have hb := X.2.1
  intro σ y0 H locs ls h hW hl
  have h : ((f_X7_become 17 1 σ).bind (fun s30 => f_X8_village_35 lb_N y0 (0 : Int32) s30)) = some qr := h
  refine lv_istore_n (lv' := [(2, .int y0), (0, .ref (lb_ad G 0))]) hx hb dX8_village_21 rfl hl (by decide) rfl (fun ls hl => ?_)
  refine lv_aload_n hx hb dX8_village_22 rfl (lv_at hl 1 rfl) ?_
  refine rg_X8_16 X hW dX8_village_23 ?_
  refine lv_aload_n hx hb dX8_village_26 rfl (lv_at hl 1 rfl) ?_
  refine rg_X8_10 X hW dX8_village_27 ?_
  obtain ⟨s30, e30, h⟩ := lb_bind h
  refine rc_X8_67 X hW lb_V17 lb_V1 e30 ⟨⟨rfl, rfl⟩, Nat.le_of_ble_eq_true rfl, Nat.le_of_ble_eq_true rfl⟩ hl.1 (Nat.le_of_ble_eq_true rfl) dX8_village_30 ⟨Nat.zero_le _, Nat.zero_le _⟩ (fun H locs hW => ?_)
  refine lv_iconst (v := 0) hx hb dX8_village_33 rfl ?_
  refine lv_istore_n (lv' := [(3, .int (0 : Int32)), (2, .int y0), (0, .ref (lb_ad G 0))]) hx hb dX8_village_34 rfl hl (by decide) rfl (fun ls hl => ?_)
  exact w_X8_village_35 X lb_N y0 (0 : Int32) s30 _ _ _ h hW (lv_sub hl [2, 1, 0] rfl)
def f_X8_village (σ : lb_Mem) : Option (Int32 × lb_Mem) := (f_X4_wrongPlace σ).bind (fun q4 => if 0 ≤ q4 then f_X8_village_21 σ ((-1000 : Int32) - q4) else f_X8_village_21 σ (0 : Int32))
set_option maxRecDepth 20000 in
set_option maxHeartbeats 4000000 in
theorem m_X8_village (l : Launch) (G : lb_G) (σ : lb_Mem) (qr : (Int32 × lb_Mem)) (h : f_X8_village σ = some qr) : lb_M l yX8_village cX8_village 4 (some .int) rmX8_village [.ref (lb_ad G 0)] G σ (lb_QI G qr.1 qr.2) := by
  refine lb_start RX8 (by decide +kernel) rfl (Nat.le_of_ble_eq_true rfl) (fun p e s m below meth c X hW ls hl => ?_)
  have hx := X.1
  have hb := X.2.1
  have hl : lv_has ls 4 [(0, .ref (lb_ad G 0))] := hl
  have h : ((f_X4_wrongPlace σ).bind (fun q4 => if 0 ≤ q4 then f_X8_village_21 σ ((-1000 : Int32) - q4) else f_X8_village_21 σ (0 : Int32))) = some qr := h
  skip
  refine lv_aload_n hx hb dX8_village_0 rfl (lv_at hl 0 rfl) ?_
  refine rg_X8_29 X hW dX8_village_1 ?_
  obtain ⟨q4, e4, h⟩ := lb_bind h
  refine rc_X8_63 X hW e4 ⟨⟨rfl, rfl⟩, Nat.le_of_ble_eq_true rfl, Nat.le_of_ble_eq_true rfl⟩ hl.1 (Nat.le_of_ble_eq_true rfl) dX8_village_4 ⟨Nat.zero_le _, Nat.zero_le _⟩ (fun H locs hW => ?_)
  refine lv_istore_n (lv' := [(1, .int q4), (0, .ref (lb_ad G 0))]) hx hb dX8_village_7 rfl hl (by decide) rfl (fun ls hl => ?_)
  refine lv_iload_n hx hb dX8_village_8 rfl (lv_at hl 0 rfl) ?_
  refine lv_if_ge (tgt := 16) hx hb dX8_village_9 (by decide) (fun c9 => ?_) (fun c9 => ?_)
  · have h := (if_pos c9).symm.trans h
    refine lv_sipush (v := -1000) hx hb dX8_village_16 rfl ?_
    refine lv_iload_n hx hb dX8_village_19 rfl (lv_at hl 0 rfl) ?_
    refine lv_isub hx hb dX8_village_20 ?_
    exact w_X8_village_21 X σ ((-1000 : Int32) - q4) _ _ _ h hW (lv_sub hl [1] rfl)
  · have h := (if_neg c9).symm.trans h
    refine lv_iconst (v := 0) hx hb dX8_village_12 rfl ?_
    refine lv_goto (tgt := 21) hx hb dX8_village_13 (by decide) ?_
    exact w_X8_village_21 X σ (0 : Int32) _ _ _ h hW (lv_sub hl [1] rfl)
theorem rc_X8_232 {p : Program} {l : Launch} {e : Env} {R : Room} {s : State} {m : MethodId} {args : Array Value} {below : List Frame} {meth : Method} {c : Code} {H : Heap} {locs : List Loc} {cells slots : Nat} {Q : State → Prop} {cc : ByteArray} {pc nL : Nat} {ls : Array Slot} {rest : List Value} {G : lb_G} {σ : lb_Mem} {ret : Option FieldType} (X : lb_C G p s m args meth c cc nL RX8 ret) (hW : lb_W G s σ H locs) {b0 : Nat} (hb0 : lb_V b0) (x1 : Int32) (hR : lb_room rmX7_hasPot R 2) (hls : ls.size = nL) (hrest : (rest.map fun v => v.category).sum ≤ 8) (d : decode cc pc = .ok (.invokevirtual 232, 3)) (hcap : cells ≤ R.cells ∧ slots ≤ R.slots) (kk : ∀ (H1 : Heap) (locs1 : List Loc), lb_W G s σ H1 locs1 → W p l e R s m args below meth c H1 locs1 cells slots Q (F0 m (pc + 3) ls (.int (f_X7_hasPot σ b0 x1) :: rest))) : W p l e R s m args below meth c H locs cells slots Q (F0 m pc ls (.int x1 :: .ref (lb_ad G b0) :: rest)) :=
  lb_goI hW (lb_runV (As := [.int x1]) X hW (m_X7_hasPot l G σ hb0 x1 _ rfl) (n := 1) ⟨qw_464, qw_44, qw_382, by decide +kernel⟩ hR qw_380 qw_381 (lb_isV hb0) rfl hls hrest d hcap) kk
abbrev rmX8_potThere : Room := { frames := 1, cells := 0, slots := 0, locals := 21 }
def f_X8_potThere (σ : lb_Mem) (x1 : Int32) : Int32 := if (f_X7_hasPot σ 1 x1) = 0 then (-1 : Int32) else (0 : Int32)
set_option maxRecDepth 20000 in
set_option maxHeartbeats 4000000 in
theorem m_X8_potThere (l : Launch) (G : lb_G) (σ : lb_Mem) (x1 : Int32) (qr : Int32) (h : f_X8_potThere σ x1 = qr) : lb_M l yX8_potThere cX8_potThere 2 (some .int) rmX8_potThere [.ref (lb_ad G 0), .int x1] G σ (lb_QI G qr σ) := by
  refine lb_start RX8 (by decide +kernel) rfl (Nat.le_of_ble_eq_true rfl) (fun p e s m below meth c X hW ls hl => ?_)
  have hx := X.1
  have hb := X.2.1
  have hl : lv_has ls 2 [(0, .ref (lb_ad G 0)), (1, .int x1)] := hl
  have h : (if (f_X7_hasPot σ 1 x1) = 0 then (-1 : Int32) else (0 : Int32)) = qr := h
  skip
  refine lv_aload_n hx hb dX8_potThere_0 rfl (lv_at hl 0 rfl) ?_
  refine rg_X8_10 X hW dX8_potThere_1 ?_
  refine lv_iload_n hx hb dX8_potThere_4 rfl (lv_at hl 1 rfl) ?_
  refine rc_X8_232 X hW lb_V1 x1 ⟨⟨rfl, rfl⟩, Nat.le_of_ble_eq_true rfl, Nat.le_of_ble_eq_true rfl⟩ hl.1 (Nat.le_of_ble_eq_true rfl) dX8_potThere_5 ⟨Nat.zero_le _, Nat.zero_le _⟩ (fun H locs hW => ?_)
  refine lv_if_eq (tgt := 15) hx hb dX8_potThere_8 (by decide) (fun c8 => ?_) (fun c8 => ?_)
  · have h := (if_pos c8).symm.trans h
    refine lv_iconst (v := -1) hx hb dX8_potThere_15 rfl ?_
    subst h
    exact lb_iret X hW dX8_potThere_16
  · have h := (if_neg c8).symm.trans h
    refine lv_iconst (v := 0) hx hb dX8_potThere_11 rfl ?_
    refine lv_goto (tgt := 16) hx hb dX8_potThere_12 (by decide) ?_
    subst h
    exact lb_iret X hW dX8_potThere_16
abbrev rmX8_known : Room := { frames := 0, cells := 0, slots := 0, locals := 0 }
def f_X8_known (x0 : Int32) (x1 : Int32) : Int32 := if x0 < 0 then (-2 : Int32) else if x0 ≤ x1 then (0 : Int32) else (-2 : Int32)
set_option maxRecDepth 20000 in
set_option maxHeartbeats 4000000 in
theorem m_X8_known (l : Launch) (G : lb_G) (σ : lb_Mem) (x0 : Int32) (x1 : Int32) (qr : Int32) (h : f_X8_known x0 x1 = qr) : lb_M l yX8_known cX8_known 2 (some .int) rmX8_known [.int x0, .int x1] G σ (lb_QI G qr σ) := by
  refine lb_start RX8 (by decide +kernel) rfl (Nat.le_of_ble_eq_true rfl) (fun p e s m below meth c X hW ls hl => ?_)
  have hx := X.1
  have hb := X.2.1
  have hl : lv_has ls 2 [(0, .int x0), (1, .int x1)] := hl
  have h : (if x0 < 0 then (-2 : Int32) else if x0 ≤ x1 then (0 : Int32) else (-2 : Int32)) = qr := h
  skip
  refine lv_iload_n hx hb dX8_known_0 rfl (lv_at hl 0 rfl) ?_
  refine lv_if_lt (tgt := 9) hx hb dX8_known_1 (by decide) (fun c1 => ?_) (fun c1 => ?_)
  · have h := (if_pos c1).symm.trans h
    refine lv_bipush (v := -2) hx hb dX8_known_9 rfl ?_
    refine lv_goto (tgt := 15) hx hb dX8_known_11 (by decide) ?_
    subst h
    exact lb_iret X hW dX8_known_15
  · have h := (if_neg c1).symm.trans h
    refine lv_iload_n hx hb dX8_known_4 rfl (lv_at hl 0 rfl) ?_
    refine lv_iload_n hx hb dX8_known_5 rfl (lv_at hl 1 rfl) ?_
    refine lv_icmp_le (tgt := 14) hx hb dX8_known_6 (by decide) (fun c6 => ?_) (fun c6 => ?_)
    · have h := (if_pos c6).symm.trans h
      refine lv_iconst (v := 0) hx hb dX8_known_14 rfl ?_
      subst h
      exact lb_iret X hW dX8_known_15
    · have h := (if_neg c6).symm.trans h
      refine lv_bipush (v := -2) hx hb dX8_known_9 rfl ?_
      refine lv_goto (tgt := 15) hx hb dX8_known_11 (by decide) ?_
      subst h
      exact lb_iret X hW dX8_known_15
theorem rc_X8_83 {p : Program} {l : Launch} {e : Env} {R : Room} {s : State} {m : MethodId} {args : Array Value} {below : List Frame} {meth : Method} {c : Code} {H : Heap} {locs : List Loc} {cells slots : Nat} {Q : State → Prop} {cc : ByteArray} {pc nL : Nat} {ls : Array Slot} {rest : List Value} {G : lb_G} {σ : lb_Mem} {ret : Option FieldType} (X : lb_C G p s m args meth c cc nL RX8 ret) (hW : lb_W G s σ H locs) (x1 : Int32) (hR : lb_room rmX8_potThere R 2) (hls : ls.size = nL) (hrest : (rest.map fun v => v.category).sum ≤ 8) (d : decode cc pc = .ok (.invokevirtual 83, 3)) (hcap : cells ≤ R.cells ∧ slots ≤ R.slots) (kk : ∀ (H1 : Heap) (locs1 : List Loc), lb_W G s σ H1 locs1 → W p l e R s m args below meth c H1 locs1 cells slots Q (F0 m (pc + 3) ls (.int (f_X8_potThere σ x1) :: rest))) : W p l e R s m args below meth c H locs cells slots Q (F0 m pc ls (.int x1 :: .ref (lb_ad G 0) :: rest)) :=
  lb_goI hW (lb_runV (As := [.int x1]) X hW (m_X8_potThere l G σ x1 _ rfl) (n := 1) ⟨qw_460, qw_43, qw_463, by decide +kernel⟩ hR qw_462 qw_1 lb_is0 rfl hls hrest d hcap) kk
theorem rc_X8_86 {p : Program} {l : Launch} {e : Env} {R : Room} {s : State} {m : MethodId} {args : Array Value} {below : List Frame} {meth : Method} {c : Code} {H : Heap} {locs : List Loc} {cells slots : Nat} {Q : State → Prop} {cc : ByteArray} {pc nL : Nat} {ls : Array Slot} {rest : List Value} {G : lb_G} {σ : lb_Mem} {ret : Option FieldType} (X : lb_C G p s m args meth c cc nL RX8 ret) (hW : lb_W G s σ H locs) (x0 : Int32) (x1 : Int32) (hR : lb_room rmX8_known R 2) (hls : ls.size = nL) (hrest : (rest.map fun v => v.category).sum ≤ 8) (d : decode cc pc = .ok (.invokestatic 86, 3)) (hcap : cells ≤ R.cells ∧ slots ≤ R.slots) (kk : ∀ (H1 : Heap) (locs1 : List Loc), lb_W G s σ H1 locs1 → W p l e R s m args below meth c H1 locs1 cells slots Q (F0 m (pc + 3) ls (.int (f_X8_known x0 x1) :: rest))) : W p l e R s m args below meth c H locs cells slots Q (F0 m pc ls (.int x1 :: .int x0 :: rest)) :=
  lb_goI hW (lb_runS (As := [.int x0, .int x1]) X hW (m_X8_known l G σ x0 x1 _ rfl) (n := 2) ⟨qw_465, qw_43, qw_467, by decide +kernel⟩ hR qw_466 rfl hls hrest d hcap) kk
abbrev rmX8_pot : Room := { frames := 2, cells := 0, slots := 0, locals := 42 }
def f_X8_pot (x1 : Int32) (x2 : Int32) (σ : lb_Mem) : Option (Int32 × lb_Mem) := lb_let ((f_X8_first (f_X8_potThere σ x1) (f_X8_known x2 (5 : Int32)))) (fun v13 : Int32 => if v13 = 0 then if x2 = 0 then lb_chk (lb_ix x1 8) (some ((σ 9 x1.toNatClampNeg), σ)) else if x2 = 1 then lb_chk (lb_ix x1 8) (some ((σ 10 x1.toNatClampNeg), σ)) else if x2 = 2 then lb_chk (lb_ix x1 8) (some ((σ 11 x1.toNatClampNeg), σ)) else if x2 = 3 then lb_chk (lb_ix x1 8) (some ((σ 12 x1.toNatClampNeg), σ)) else if x2 = 4 then lb_chk (lb_ix x1 8) (some ((σ 13 x1.toNatClampNeg), σ)) else lb_chk (lb_ix x1 8) (some ((σ 14 x1.toNatClampNeg), σ)) else (f_X8_refuse v13 σ).bind (fun q20 => some (q20.1, q20.2)))
set_option maxRecDepth 20000 in
set_option maxHeartbeats 4000000 in
theorem m_X8_pot (l : Launch) (G : lb_G) (σ : lb_Mem) (x1 : Int32) (x2 : Int32) (qr : (Int32 × lb_Mem)) (h : f_X8_pot x1 x2 σ = some qr) : lb_M l yX8_pot cX8_pot 4 (some .int) rmX8_pot [.ref (lb_ad G 0), .int x1, .int x2] G σ (lb_QI G qr.1 qr.2) := by
  refine lb_start RX8 (by decide +kernel) rfl (Nat.le_of_ble_eq_true rfl) (fun p e s m below meth c X hW ls hl => ?_)
  have hx := X.1
  have hb := X.2.1
  have hl : lv_has ls 4 [(0, .ref (lb_ad G 0)), (1, .int x1), (2, .int x2)] := hl
  have h : (lb_let ((f_X8_first (f_X8_potThere σ x1) (f_X8_known x2 (5 : Int32)))) (fun v13 : Int32 => if v13 = 0 then if x2 = 0 then lb_chk (lb_ix x1 8) (some ((σ 9 x1.toNatClampNeg), σ)) else if x2 = 1 then lb_chk (lb_ix x1 8) (some ((σ 10 x1.toNatClampNeg), σ)) else if x2 = 2 then lb_chk (lb_ix x1 8) (some ((σ 11 x1.toNatClampNeg), σ)) else if x2 = 3 then lb_chk (lb_ix x1 8) (some ((σ 12 x1.toNatClampNeg), σ)) else if x2 = 4 then lb_chk (lb_ix x1 8) (some ((σ 13 x1.toNatClampNeg), σ)) else lb_chk (lb_ix x1 8) (some ((σ 14 x1.toNatClampNeg), σ)) else (f_X8_refuse v13 σ).bind (fun q20 => some (q20.1, q20.2)))) = some qr := h
  skip
  refine lv_aload_n hx hb dX8_pot_0 rfl (lv_at hl 0 rfl) ?_
  refine lv_iload_n hx hb dX8_pot_1 rfl (lv_at hl 1 rfl) ?_
  refine rc_X8_83 X hW x1 ⟨⟨rfl, rfl⟩, Nat.le_of_ble_eq_true rfl, Nat.le_of_ble_eq_true rfl⟩ hl.1 (Nat.le_of_ble_eq_true rfl) dX8_pot_2 ⟨Nat.zero_le _, Nat.zero_le _⟩ (fun H locs hW => ?_)
  refine lv_iload_n hx hb dX8_pot_5 rfl (lv_at hl 2 rfl) ?_
  refine lv_iconst (v := 5) hx hb dX8_pot_6 rfl ?_
  refine rc_X8_86 X hW x2 (5 : Int32) ⟨⟨rfl, rfl⟩, Nat.le_of_ble_eq_true rfl, Nat.le_of_ble_eq_true rfl⟩ hl.1 (Nat.le_of_ble_eq_true rfl) dX8_pot_7 ⟨Nat.zero_le _, Nat.zero_le _⟩ (fun H locs hW => ?_)
  refine rc_X8_51 X hW (f_X8_potThere σ x1) (f_X8_known x2 (5 : Int32)) ⟨⟨rfl, rfl⟩, Nat.le_of_ble_eq_true rfl, Nat.le_of_ble_eq_true rfl⟩ hl.1 (Nat.le_of_ble_eq_true rfl) dX8_pot_10 ⟨Nat.zero_le _, Nat.zero_le _⟩ (fun H locs hW => ?_)
  refine lv_topi (fun v13 e13 => ?_)
  have h := lb_letI e13 h
  refine lv_istore_n (lv' := [(3, .int v13), (0, .ref (lb_ad G 0)), (1, .int x1), (2, .int x2)]) hx hb dX8_pot_13 rfl hl (by decide) rfl (fun ls hl => ?_)
  refine lv_iload_n hx hb dX8_pot_14 rfl (lv_at hl 0 rfl) ?_
  refine lv_if_eq (tgt := 24) hx hb dX8_pot_15 (by decide) (fun c15 => ?_) (fun c15 => ?_)
  · have h := (if_pos c15).symm.trans h
    refine lv_iload_n hx hb dX8_pot_24 rfl (lv_at hl 3 rfl) ?_
    by_cases c25_0 : x2 = 0
    · have h := (if_pos c25_0).symm.trans h
      refine lv_tableIn (tgt := 60) hx hb dX8_pot_25 (by rw [c25_0]; decide) (by rw [c25_0]; decide) (off := 35) (by rw [c25_0]; rfl) (by decide) ?_
      refine lv_aload_n hx hb dX8_pot_60 rfl (lv_at hl 1 rfl) ?_
      refine rg_X8_10 X hW dX8_pot_61 ?_
      refine rg_X8_89 (k := 9) X hW lb_V1 rfl dX8_pot_64 ?_
      refine lv_iload_n hx hb dX8_pot_67 rfl (lv_at hl 2 rfl) ?_
      obtain ⟨i68, h⟩ := lb_chk_in h
      refine lb_ild X hW (show lb_ar 9 = 7 + 1 from rfl) i68 dX8_pot_68 ?_
      obtain rfl := Option.some.inj h
      exact lb_iret X hW dX8_pot_69
    have h := (if_neg c25_0).symm.trans h
    by_cases c25_1 : x2 = 1
    · have h := (if_pos c25_1).symm.trans h
      refine lv_tableIn (tgt := 70) hx hb dX8_pot_25 (by rw [c25_1]; decide) (by rw [c25_1]; decide) (off := 45) (by rw [c25_1]; rfl) (by decide) ?_
      refine lv_aload_n hx hb dX8_pot_70 rfl (lv_at hl 1 rfl) ?_
      refine rg_X8_10 X hW dX8_pot_71 ?_
      refine rg_X8_92 (k := 10) X hW lb_V1 rfl dX8_pot_74 ?_
      refine lv_iload_n hx hb dX8_pot_77 rfl (lv_at hl 2 rfl) ?_
      obtain ⟨i78, h⟩ := lb_chk_in h
      refine lb_ild X hW (show lb_ar 10 = 7 + 1 from rfl) i78 dX8_pot_78 ?_
      obtain rfl := Option.some.inj h
      exact lb_iret X hW dX8_pot_79
    have h := (if_neg c25_1).symm.trans h
    by_cases c25_2 : x2 = 2
    · have h := (if_pos c25_2).symm.trans h
      refine lv_tableIn (tgt := 80) hx hb dX8_pot_25 (by rw [c25_2]; decide) (by rw [c25_2]; decide) (off := 55) (by rw [c25_2]; rfl) (by decide) ?_
      refine lv_aload_n hx hb dX8_pot_80 rfl (lv_at hl 1 rfl) ?_
      refine rg_X8_10 X hW dX8_pot_81 ?_
      refine rg_X8_95 (k := 11) X hW lb_V1 rfl dX8_pot_84 ?_
      refine lv_iload_n hx hb dX8_pot_87 rfl (lv_at hl 2 rfl) ?_
      obtain ⟨i88, h⟩ := lb_chk_in h
      refine lb_ild X hW (show lb_ar 11 = 7 + 1 from rfl) i88 dX8_pot_88 ?_
      obtain rfl := Option.some.inj h
      exact lb_iret X hW dX8_pot_89
    have h := (if_neg c25_2).symm.trans h
    by_cases c25_3 : x2 = 3
    · have h := (if_pos c25_3).symm.trans h
      refine lv_tableIn (tgt := 90) hx hb dX8_pot_25 (by rw [c25_3]; decide) (by rw [c25_3]; decide) (off := 65) (by rw [c25_3]; rfl) (by decide) ?_
      refine lv_aload_n hx hb dX8_pot_90 rfl (lv_at hl 1 rfl) ?_
      refine rg_X8_10 X hW dX8_pot_91 ?_
      refine rg_X8_98 (k := 12) X hW lb_V1 rfl dX8_pot_94 ?_
      refine lv_iload_n hx hb dX8_pot_97 rfl (lv_at hl 2 rfl) ?_
      obtain ⟨i98, h⟩ := lb_chk_in h
      refine lb_ild X hW (show lb_ar 12 = 7 + 1 from rfl) i98 dX8_pot_98 ?_
      obtain rfl := Option.some.inj h
      exact lb_iret X hW dX8_pot_99
    have h := (if_neg c25_3).symm.trans h
    by_cases c25_4 : x2 = 4
    · have h := (if_pos c25_4).symm.trans h
      refine lv_tableIn (tgt := 100) hx hb dX8_pot_25 (by rw [c25_4]; decide) (by rw [c25_4]; decide) (off := 75) (by rw [c25_4]; rfl) (by decide) ?_
      refine lv_aload_n hx hb dX8_pot_100 rfl (lv_at hl 1 rfl) ?_
      refine rg_X8_10 X hW dX8_pot_101 ?_
      refine rg_X8_101 (k := 13) X hW lb_V1 rfl dX8_pot_104 ?_
      refine lv_iload_n hx hb dX8_pot_107 rfl (lv_at hl 2 rfl) ?_
      obtain ⟨i108, h⟩ := lb_chk_in h
      refine lb_ild X hW (show lb_ar 13 = 7 + 1 from rfl) i108 dX8_pot_108 ?_
      obtain rfl := Option.some.inj h
      exact lb_iret X hW dX8_pot_109
    have h := (if_neg c25_4).symm.trans h
    refine lb_tswD (tgt := 110) (lb_kn_cons c25_0 (lb_kn_cons c25_1 (lb_kn_cons c25_2 (lb_kn_cons c25_3 (lb_kn_cons c25_4 lb_kn_nil))))) hx hb dX8_pot_25 (by decide) (by decide) (by decide) (by decide) (by decide) ?_
    refine lv_aload_n hx hb dX8_pot_110 rfl (lv_at hl 1 rfl) ?_
    refine rg_X8_10 X hW dX8_pot_111 ?_
    refine rg_X8_104 (k := 14) X hW lb_V1 rfl dX8_pot_114 ?_
    refine lv_iload_n hx hb dX8_pot_117 rfl (lv_at hl 2 rfl) ?_
    obtain ⟨i118, h⟩ := lb_chk_in h
    refine lb_ild X hW (show lb_ar 14 = 7 + 1 from rfl) i118 dX8_pot_118 ?_
    obtain rfl := Option.some.inj h
    exact lb_iret X hW dX8_pot_119
  · have h := (if_neg c15).symm.trans h
    refine lv_aload_n hx hb dX8_pot_18 rfl (lv_at hl 1 rfl) ?_
    refine lv_iload_n hx hb dX8_pot_19 rfl (lv_at hl 0 rfl) ?_
    obtain ⟨q20, e20, h⟩ := lb_bind h
    refine rc_X8_55 X hW e20 ⟨⟨rfl, rfl⟩, Nat.le_of_ble_eq_true rfl, Nat.le_of_ble_eq_true rfl⟩ hl.1 (Nat.le_of_ble_eq_true rfl) dX8_pot_20 ⟨Nat.zero_le _, Nat.zero_le _⟩ (fun H locs hW => ?_)
    obtain rfl := Option.some.inj h
    exact lb_iret X hW dX8_pot_23
theorem rc_X8_250 {p : Program} {l : Launch} {e : Env} {R : Room} {s : State} {m : MethodId} {args : Array Value} {below : List Frame} {meth : Method} {c : Code} {H : Heap} {locs : List Loc} {cells slots : Nat} {Q : State → Prop} {cc : ByteArray} {pc nL : Nat} {ls : Array Slot} {rest : List Value} {G : lb_G} {σ : lb_Mem} {ret : Option FieldType} (X : lb_C G p s m args meth c cc nL RX8 ret) (hW : lb_W G s σ H locs) {b0 : Nat} (hb0 : lb_V b0) (x1 : Int32) (hR : lb_room rmX7_hasPerson R 2) (hls : ls.size = nL) (hrest : (rest.map fun v => v.category).sum ≤ 8) (d : decode cc pc = .ok (.invokevirtual 250, 3)) (hcap : cells ≤ R.cells ∧ slots ≤ R.slots) (kk : ∀ (H1 : Heap) (locs1 : List Loc), lb_W G s σ H1 locs1 → W p l e R s m args below meth c H1 locs1 cells slots Q (F0 m (pc + 3) ls (.int (f_X7_hasPerson σ b0 x1) :: rest))) : W p l e R s m args below meth c H locs cells slots Q (F0 m pc ls (.int x1 :: .ref (lb_ad G b0) :: rest)) :=
  lb_goI hW (lb_runV (As := [.int x1]) X hW (m_X7_hasPerson l G σ hb0 x1 _ rfl) (n := 1) ⟨qw_476, qw_44, qw_374, by decide +kernel⟩ hR qw_372 qw_373 (lb_isV hb0) rfl hls hrest d hcap) kk
abbrev rmX8_personThere : Room := { frames := 1, cells := 0, slots := 0, locals := 21 }
def f_X8_personThere (σ : lb_Mem) (x1 : Int32) : Int32 := if (f_X7_hasPerson σ 1 x1) = 0 then (-1 : Int32) else (0 : Int32)
set_option maxRecDepth 20000 in
set_option maxHeartbeats 4000000 in
theorem m_X8_personThere (l : Launch) (G : lb_G) (σ : lb_Mem) (x1 : Int32) (qr : Int32) (h : f_X8_personThere σ x1 = qr) : lb_M l yX8_personThere cX8_personThere 2 (some .int) rmX8_personThere [.ref (lb_ad G 0), .int x1] G σ (lb_QI G qr σ) := by
  refine lb_start RX8 (by decide +kernel) rfl (Nat.le_of_ble_eq_true rfl) (fun p e s m below meth c X hW ls hl => ?_)
  have hx := X.1
  have hb := X.2.1
  have hl : lv_has ls 2 [(0, .ref (lb_ad G 0)), (1, .int x1)] := hl
  have h : (if (f_X7_hasPerson σ 1 x1) = 0 then (-1 : Int32) else (0 : Int32)) = qr := h
  skip
  refine lv_aload_n hx hb dX8_personThere_0 rfl (lv_at hl 0 rfl) ?_
  refine rg_X8_10 X hW dX8_personThere_1 ?_
  refine lv_iload_n hx hb dX8_personThere_4 rfl (lv_at hl 1 rfl) ?_
  refine rc_X8_250 X hW lb_V1 x1 ⟨⟨rfl, rfl⟩, Nat.le_of_ble_eq_true rfl, Nat.le_of_ble_eq_true rfl⟩ hl.1 (Nat.le_of_ble_eq_true rfl) dX8_personThere_5 ⟨Nat.zero_le _, Nat.zero_le _⟩ (fun H locs hW => ?_)
  refine lv_if_eq (tgt := 15) hx hb dX8_personThere_8 (by decide) (fun c8 => ?_) (fun c8 => ?_)
  · have h := (if_pos c8).symm.trans h
    refine lv_iconst (v := -1) hx hb dX8_personThere_15 rfl ?_
    subst h
    exact lb_iret X hW dX8_personThere_16
  · have h := (if_neg c8).symm.trans h
    refine lv_iconst (v := 0) hx hb dX8_personThere_11 rfl ?_
    refine lv_goto (tgt := 16) hx hb dX8_personThere_12 (by decide) ?_
    subst h
    exact lb_iret X hW dX8_personThere_16
theorem rc_X8_107 {p : Program} {l : Launch} {e : Env} {R : Room} {s : State} {m : MethodId} {args : Array Value} {below : List Frame} {meth : Method} {c : Code} {H : Heap} {locs : List Loc} {cells slots : Nat} {Q : State → Prop} {cc : ByteArray} {pc nL : Nat} {ls : Array Slot} {rest : List Value} {G : lb_G} {σ : lb_Mem} {ret : Option FieldType} (X : lb_C G p s m args meth c cc nL RX8 ret) (hW : lb_W G s σ H locs) (x1 : Int32) (hR : lb_room rmX8_personThere R 2) (hls : ls.size = nL) (hrest : (rest.map fun v => v.category).sum ≤ 8) (d : decode cc pc = .ok (.invokevirtual 107, 3)) (hcap : cells ≤ R.cells ∧ slots ≤ R.slots) (kk : ∀ (H1 : Heap) (locs1 : List Loc), lb_W G s σ H1 locs1 → W p l e R s m args below meth c H1 locs1 cells slots Q (F0 m (pc + 3) ls (.int (f_X8_personThere σ x1) :: rest))) : W p l e R s m args below meth c H locs cells slots Q (F0 m pc ls (.int x1 :: .ref (lb_ad G 0) :: rest)) :=
  lb_goI hW (lb_runV (As := [.int x1]) X hW (m_X8_personThere l G σ x1 _ rfl) (n := 1) ⟨qw_472, qw_43, qw_475, by decide +kernel⟩ hR qw_474 qw_2 lb_is0 rfl hls hrest d hcap) kk
theorem rc_X8_116 {p : Program} {l : Launch} {e : Env} {R : Room} {s : State} {m : MethodId} {args : Array Value} {below : List Frame} {meth : Method} {c : Code} {H : Heap} {locs : List Loc} {cells slots : Nat} {Q : State → Prop} {cc : ByteArray} {pc nL : Nat} {ls : Array Slot} {rest : List Value} {G : lb_G} {σ : lb_Mem} {ret : Option FieldType} (X : lb_C G p s m args meth c cc nL RX8 ret) (hW : lb_W G s σ H locs) {b0 : Nat} (hb0 : lb_V b0) {x1 : Int32} {qr : Int32} (h : f_X7_opened σ b0 x1 = some qr) (hR : lb_room rmX7_opened R 6) (hls : ls.size = nL) (hrest : (rest.map fun v => v.category).sum ≤ 8) (d : decode cc pc = .ok (.invokevirtual 116, 3)) (hcap : cells ≤ R.cells ∧ slots ≤ R.slots) (kk : ∀ (H1 : Heap) (locs1 : List Loc), lb_W G s σ H1 locs1 → W p l e R s m args below meth c H1 locs1 cells slots Q (F0 m (pc + 3) ls (.int qr :: rest))) : W p l e R s m args below meth c H locs cells slots Q (F0 m pc ls (.int x1 :: .ref (lb_ad G b0) :: rest)) :=
  lb_goI hW (lb_runV (As := [.int x1]) X hW (m_X7_opened l G σ hb0 x1 qr h) (n := 1) ⟨qw_477, qw_44, qw_410, by decide +kernel⟩ hR qw_408 qw_409 (lb_isV hb0) rfl hls hrest d hcap) kk
theorem rc_X8_119 {p : Program} {l : Launch} {e : Env} {R : Room} {s : State} {m : MethodId} {args : Array Value} {below : List Frame} {meth : Method} {c : Code} {H : Heap} {locs : List Loc} {cells slots : Nat} {Q : State → Prop} {cc : ByteArray} {pc nL : Nat} {ls : Array Slot} {rest : List Value} {G : lb_G} {σ : lb_Mem} {ret : Option FieldType} (X : lb_C G p s m args meth c cc nL RX8 ret) (hW : lb_W G s σ H locs) {b0 : Nat} (hb0 : lb_V b0) {x1 : Int32} {qr : Int32} (h : f_X7_potsOf σ b0 x1 = some qr) (hR : lb_room rmX7_potsOf R 4) (hls : ls.size = nL) (hrest : (rest.map fun v => v.category).sum ≤ 8) (d : decode cc pc = .ok (.invokevirtual 119, 3)) (hcap : cells ≤ R.cells ∧ slots ≤ R.slots) (kk : ∀ (H1 : Heap) (locs1 : List Loc), lb_W G s σ H1 locs1 → W p l e R s m args below meth c H1 locs1 cells slots Q (F0 m (pc + 3) ls (.int qr :: rest))) : W p l e R s m args below meth c H locs cells slots Q (F0 m pc ls (.int x1 :: .ref (lb_ad G b0) :: rest)) :=
  lb_goI hW (lb_runV (As := [.int x1]) X hW (m_X7_potsOf l G σ hb0 x1 qr h) (n := 1) ⟨qw_478, qw_44, qw_481, by decide +kernel⟩ hR qw_479 qw_480 (lb_isV hb0) rfl hls hrest d hcap) kk
abbrev rmX8_person : Room := { frames := 3, cells := 0, slots := 0, locals := 62 }
def f_X8_person (x1 : Int32) (x2 : Int32) (σ : lb_Mem) : Option (Int32 × lb_Mem) := lb_let ((f_X8_first (f_X8_personThere σ x1) (f_X8_known x2 (3 : Int32)))) (fun v13 : Int32 => if v13 = 0 then if x2 = 0 then lb_chk (lb_ix x1 5) (some ((σ 15 x1.toNatClampNeg), σ)) else if x2 = 1 then lb_chk (lb_ix x1 5) (some ((σ 16 x1.toNatClampNeg), σ)) else if x2 = 2 then (f_X7_opened σ 1 x1).bind (fun q77 => some (q77, σ)) else (f_X7_potsOf σ 1 x1).bind (fun q86 => some (q86, σ)) else (f_X8_refuse v13 σ).bind (fun q20 => some (q20.1, q20.2)))
set_option maxRecDepth 20000 in
set_option maxHeartbeats 4000000 in
theorem m_X8_person (l : Launch) (G : lb_G) (σ : lb_Mem) (x1 : Int32) (x2 : Int32) (qr : (Int32 × lb_Mem)) (h : f_X8_person x1 x2 σ = some qr) : lb_M l yX8_person cX8_person 4 (some .int) rmX8_person [.ref (lb_ad G 0), .int x1, .int x2] G σ (lb_QI G qr.1 qr.2) := by
  refine lb_start RX8 (by decide +kernel) rfl (Nat.le_of_ble_eq_true rfl) (fun p e s m below meth c X hW ls hl => ?_)
  have hx := X.1
  have hb := X.2.1
  have hl : lv_has ls 4 [(0, .ref (lb_ad G 0)), (1, .int x1), (2, .int x2)] := hl
  have h : (lb_let ((f_X8_first (f_X8_personThere σ x1) (f_X8_known x2 (3 : Int32)))) (fun v13 : Int32 => if v13 = 0 then if x2 = 0 then lb_chk (lb_ix x1 5) (some ((σ 15 x1.toNatClampNeg), σ)) else if x2 = 1 then lb_chk (lb_ix x1 5) (some ((σ 16 x1.toNatClampNeg), σ)) else if x2 = 2 then (f_X7_opened σ 1 x1).bind (fun q77 => some (q77, σ)) else (f_X7_potsOf σ 1 x1).bind (fun q86 => some (q86, σ)) else (f_X8_refuse v13 σ).bind (fun q20 => some (q20.1, q20.2)))) = some qr := h
  skip
  refine lv_aload_n hx hb dX8_person_0 rfl (lv_at hl 0 rfl) ?_
  refine lv_iload_n hx hb dX8_person_1 rfl (lv_at hl 1 rfl) ?_
  refine rc_X8_107 X hW x1 ⟨⟨rfl, rfl⟩, Nat.le_of_ble_eq_true rfl, Nat.le_of_ble_eq_true rfl⟩ hl.1 (Nat.le_of_ble_eq_true rfl) dX8_person_2 ⟨Nat.zero_le _, Nat.zero_le _⟩ (fun H locs hW => ?_)
  refine lv_iload_n hx hb dX8_person_5 rfl (lv_at hl 2 rfl) ?_
  refine lv_iconst (v := 3) hx hb dX8_person_6 rfl ?_
  refine rc_X8_86 X hW x2 (3 : Int32) ⟨⟨rfl, rfl⟩, Nat.le_of_ble_eq_true rfl, Nat.le_of_ble_eq_true rfl⟩ hl.1 (Nat.le_of_ble_eq_true rfl) dX8_person_7 ⟨Nat.zero_le _, Nat.zero_le _⟩ (fun H locs hW => ?_)
  refine rc_X8_51 X hW (f_X8_personThere σ x1) (f_X8_known x2 (3 : Int32)) ⟨⟨rfl, rfl⟩, Nat.le_of_ble_eq_true rfl, Nat.le_of_ble_eq_true rfl⟩ hl.1 (Nat.le_of_ble_eq_true rfl) dX8_person_10 ⟨Nat.zero_le _, Nat.zero_le _⟩ (fun H locs hW => ?_)
  refine lv_topi (fun v13 e13 => ?_)
  have h := lb_letI e13 h
  refine lv_istore_n (lv' := [(3, .int v13), (0, .ref (lb_ad G 0)), (1, .int x1), (2, .int x2)]) hx hb dX8_person_13 rfl hl (by decide) rfl (fun ls hl => ?_)
  refine lv_iload_n hx hb dX8_person_14 rfl (lv_at hl 0 rfl) ?_
  refine lv_if_eq (tgt := 24) hx hb dX8_person_15 (by decide) (fun c15 => ?_) (fun c15 => ?_)
  · have h := (if_pos c15).symm.trans h
    refine lv_iload_n hx hb dX8_person_24 rfl (lv_at hl 3 rfl) ?_
    by_cases c25_0 : x2 = 0
    · have h := (if_pos c25_0).symm.trans h
      refine lv_tableIn (tgt := 52) hx hb dX8_person_25 (by rw [c25_0]; decide) (by rw [c25_0]; decide) (off := 27) (by rw [c25_0]; rfl) (by decide) ?_
      refine lv_aload_n hx hb dX8_person_52 rfl (lv_at hl 1 rfl) ?_
      refine rg_X8_10 X hW dX8_person_53 ?_
      refine rg_X8_110 (k := 15) X hW lb_V1 rfl dX8_person_56 ?_
      refine lv_iload_n hx hb dX8_person_59 rfl (lv_at hl 2 rfl) ?_
      obtain ⟨i60, h⟩ := lb_chk_in h
      refine lb_ild X hW (show lb_ar 15 = 4 + 1 from rfl) i60 dX8_person_60 ?_
      obtain rfl := Option.some.inj h
      exact lb_iret X hW dX8_person_61
    have h := (if_neg c25_0).symm.trans h
    by_cases c25_1 : x2 = 1
    · have h := (if_pos c25_1).symm.trans h
      refine lv_tableIn (tgt := 62) hx hb dX8_person_25 (by rw [c25_1]; decide) (by rw [c25_1]; decide) (off := 37) (by rw [c25_1]; rfl) (by decide) ?_
      refine lv_aload_n hx hb dX8_person_62 rfl (lv_at hl 1 rfl) ?_
      refine rg_X8_10 X hW dX8_person_63 ?_
      refine rg_X8_113 (k := 16) X hW lb_V1 rfl dX8_person_66 ?_
      refine lv_iload_n hx hb dX8_person_69 rfl (lv_at hl 2 rfl) ?_
      obtain ⟨i70, h⟩ := lb_chk_in h
      refine lb_ild X hW (show lb_ar 16 = 4 + 1 from rfl) i70 dX8_person_70 ?_
      obtain rfl := Option.some.inj h
      exact lb_iret X hW dX8_person_71
    have h := (if_neg c25_1).symm.trans h
    by_cases c25_2 : x2 = 2
    · have h := (if_pos c25_2).symm.trans h
      refine lv_tableIn (tgt := 72) hx hb dX8_person_25 (by rw [c25_2]; decide) (by rw [c25_2]; decide) (off := 47) (by rw [c25_2]; rfl) (by decide) ?_
      refine lv_aload_n hx hb dX8_person_72 rfl (lv_at hl 1 rfl) ?_
      refine rg_X8_10 X hW dX8_person_73 ?_
      refine lv_iload_n hx hb dX8_person_76 rfl (lv_at hl 2 rfl) ?_
      obtain ⟨q77, e77, h⟩ := lb_bind h
      refine rc_X8_116 X hW lb_V1 e77 ⟨⟨rfl, rfl⟩, Nat.le_of_ble_eq_true rfl, Nat.le_of_ble_eq_true rfl⟩ hl.1 (Nat.le_of_ble_eq_true rfl) dX8_person_77 ⟨Nat.zero_le _, Nat.zero_le _⟩ (fun H locs hW => ?_)
      obtain rfl := Option.some.inj h
      exact lb_iret X hW dX8_person_80
    have h := (if_neg c25_2).symm.trans h
    refine lb_tswD (tgt := 81) (lb_kn_cons c25_0 (lb_kn_cons c25_1 (lb_kn_cons c25_2 lb_kn_nil))) hx hb dX8_person_25 (by decide) (by decide) (by decide) (by decide) (by decide) ?_
    refine lv_aload_n hx hb dX8_person_81 rfl (lv_at hl 1 rfl) ?_
    refine rg_X8_10 X hW dX8_person_82 ?_
    refine lv_iload_n hx hb dX8_person_85 rfl (lv_at hl 2 rfl) ?_
    obtain ⟨q86, e86, h⟩ := lb_bind h
    refine rc_X8_119 X hW lb_V1 e86 ⟨⟨rfl, rfl⟩, Nat.le_of_ble_eq_true rfl, Nat.le_of_ble_eq_true rfl⟩ hl.1 (Nat.le_of_ble_eq_true rfl) dX8_person_86 ⟨Nat.zero_le _, Nat.zero_le _⟩ (fun H locs hW => ?_)
    obtain rfl := Option.some.inj h
    exact lb_iret X hW dX8_person_89
  · have h := (if_neg c15).symm.trans h
    refine lv_aload_n hx hb dX8_person_18 rfl (lv_at hl 1 rfl) ?_
    refine lv_iload_n hx hb dX8_person_19 rfl (lv_at hl 0 rfl) ?_
    obtain ⟨q20, e20, h⟩ := lb_bind h
    refine rc_X8_55 X hW e20 ⟨⟨rfl, rfl⟩, Nat.le_of_ble_eq_true rfl, Nat.le_of_ble_eq_true rfl⟩ hl.1 (Nat.le_of_ble_eq_true rfl) dX8_person_20 ⟨Nat.zero_le _, Nat.zero_le _⟩ (fun H locs hW => ?_)
    obtain rfl := Option.some.inj h
    exact lb_iret X hW dX8_person_23
abbrev rmX8_refuseFar : Room := { frames := 1, cells := 0, slots := 0, locals := 21 }
def f_X8_refuseFar (x1 : Int32) (σ : lb_Mem) : Option (Int32 × lb_Mem) := (f_X8_refuse x1 σ).bind (fun q4 => some (((1000000000 : Int32) - q4.1), q4.2))
set_option maxRecDepth 20000 in
set_option maxHeartbeats 4000000 in
theorem m_X8_refuseFar (l : Launch) (G : lb_G) (σ : lb_Mem) (x1 : Int32) (qr : (Int32 × lb_Mem)) (h : f_X8_refuseFar x1 σ = some qr) : lb_M l yX8_refuseFar cX8_refuseFar 2 (some .int) rmX8_refuseFar [.ref (lb_ad G 0), .int x1] G σ (lb_QI G qr.1 qr.2) := by
  refine lb_start RX8 (by decide +kernel) rfl (Nat.le_of_ble_eq_true rfl) (fun p e s m below meth c X hW ls hl => ?_)
  have hx := X.1
  have hb := X.2.1
  have hl : lv_has ls 2 [(0, .ref (lb_ad G 0)), (1, .int x1)] := hl
  have h : ((f_X8_refuse x1 σ).bind (fun q4 => some (((1000000000 : Int32) - q4.1), q4.2))) = some qr := h
  skip
  refine lv_ldc (v := 1000000000) hx hb X.2.2.2.1 (X.2.2.2.2.1 _ qw_490) dX8_refuseFar_0 ?_
  refine lv_aload_n hx hb dX8_refuseFar_2 rfl (lv_at hl 0 rfl) ?_
  refine lv_iload_n hx hb dX8_refuseFar_3 rfl (lv_at hl 1 rfl) ?_
  obtain ⟨q4, e4, h⟩ := lb_bind h
  refine rc_X8_55 X hW e4 ⟨⟨rfl, rfl⟩, Nat.le_of_ble_eq_true rfl, Nat.le_of_ble_eq_true rfl⟩ hl.1 (Nat.le_of_ble_eq_true rfl) dX8_refuseFar_4 ⟨Nat.zero_le _, Nat.zero_le _⟩ (fun H locs hW => ?_)
  refine lv_isub hx hb dX8_refuseFar_7 ?_
  obtain rfl := Option.some.inj h
  exact lb_iret X hW dX8_refuseFar_8
theorem rc_X8_122 {p : Program} {l : Launch} {e : Env} {R : Room} {s : State} {m : MethodId} {args : Array Value} {below : List Frame} {meth : Method} {c : Code} {H : Heap} {locs : List Loc} {cells slots : Nat} {Q : State → Prop} {cc : ByteArray} {pc nL : Nat} {ls : Array Slot} {rest : List Value} {G : lb_G} {σ : lb_Mem} {ret : Option FieldType} (X : lb_C G p s m args meth c cc nL RX8 ret) (hW : lb_W G s σ H locs) {x1 : Int32} {qr : (Int32 × lb_Mem)} (h : f_X8_refuseFar x1 σ = some qr) (hR : lb_room rmX8_refuseFar R 2) (hls : ls.size = nL) (hrest : (rest.map fun v => v.category).sum ≤ 8) (d : decode cc pc = .ok (.invokevirtual 122, 3)) (hcap : cells ≤ R.cells ∧ slots ≤ R.slots) (kk : ∀ (H1 : Heap) (locs1 : List Loc), lb_W G s qr.2 H1 locs1 → W p l e R s m args below meth c H1 locs1 cells slots Q (F0 m (pc + 3) ls (.int qr.1 :: rest))) : W p l e R s m args below meth c H locs cells slots Q (F0 m pc ls (.int x1 :: .ref (lb_ad G 0) :: rest)) :=
  lb_goI hW (lb_runV (As := [.int x1]) X hW (m_X8_refuseFar l G σ x1 qr h) (n := 1) ⟨qw_486, qw_43, qw_489, by decide +kernel⟩ hR qw_488 qw_3 lb_is0 rfl hls hrest d hcap) kk
theorem rc_X8_125 {p : Program} {l : Launch} {e : Env} {R : Room} {s : State} {m : MethodId} {args : Array Value} {below : List Frame} {meth : Method} {c : Code} {H : Heap} {locs : List Loc} {cells slots : Nat} {Q : State → Prop} {cc : ByteArray} {pc nL : Nat} {ls : Array Slot} {rest : List Value} {G : lb_G} {σ : lb_Mem} {ret : Option FieldType} (X : lb_C G p s m args meth c cc nL RX8 ret) (hW : lb_W G s σ H locs) {b0 : Nat} (hb0 : lb_V b0) {x1 : Int32} {x2 : Int32} {qr : Int32} (h : f_X7_gained σ b0 x1 x2 = some qr) (hR : lb_room rmX7_gained R 5) (hls : ls.size = nL) (hrest : (rest.map fun v => v.category).sum ≤ 8) (d : decode cc pc = .ok (.invokevirtual 125, 3)) (hcap : cells ≤ R.cells ∧ slots ≤ R.slots) (kk : ∀ (H1 : Heap) (locs1 : List Loc), lb_W G s σ H1 locs1 → W p l e R s m args below meth c H1 locs1 cells slots Q (F0 m (pc + 3) ls (.int qr :: rest))) : W p l e R s m args below meth c H locs cells slots Q (F0 m pc ls (.int x2 :: .int x1 :: .ref (lb_ad G b0) :: rest)) :=
  lb_goI hW (lb_runV (As := [.int x1, .int x2]) X hW (m_X7_gained l G σ hb0 x1 x2 qr h) (n := 2) ⟨qw_491, qw_44, qw_425, by decide +kernel⟩ hR qw_423 qw_424 (lb_isV hb0) rfl hls hrest d hcap) kk
abbrev rmX8_gains : Room := { frames := 4, cells := 0, slots := 0, locals := 94 }
def f_X8_gains (x1 : Int32) (x2 : Int32) (σ : lb_Mem) : Option (Int32 × lb_Mem) := lb_let ((f_X8_first (f_X8_potThere σ x1) (f_X8_personThere σ x2))) (fun v13 : Int32 => if v13 = 0 then (f_X7_gained σ 1 x1 x2).bind (fun q32 => some (q32, σ)) else (f_X8_refuseFar v13 σ).bind (fun q20 => some (q20.1, q20.2)))
set_option maxRecDepth 20000 in
set_option maxHeartbeats 4000000 in
theorem m_X8_gains (l : Launch) (G : lb_G) (σ : lb_Mem) (x1 : Int32) (x2 : Int32) (qr : (Int32 × lb_Mem)) (h : f_X8_gains x1 x2 σ = some qr) : lb_M l yX8_gains cX8_gains 4 (some .int) rmX8_gains [.ref (lb_ad G 0), .int x1, .int x2] G σ (lb_QI G qr.1 qr.2) := by
  refine lb_start RX8 (by decide +kernel) rfl (Nat.le_of_ble_eq_true rfl) (fun p e s m below meth c X hW ls hl => ?_)
  have hx := X.1
  have hb := X.2.1
  have hl : lv_has ls 4 [(0, .ref (lb_ad G 0)), (1, .int x1), (2, .int x2)] := hl
  have h : (lb_let ((f_X8_first (f_X8_potThere σ x1) (f_X8_personThere σ x2))) (fun v13 : Int32 => if v13 = 0 then (f_X7_gained σ 1 x1 x2).bind (fun q32 => some (q32, σ)) else (f_X8_refuseFar v13 σ).bind (fun q20 => some (q20.1, q20.2)))) = some qr := h
  skip
  refine lv_aload_n hx hb dX8_gains_0 rfl (lv_at hl 0 rfl) ?_
  refine lv_iload_n hx hb dX8_gains_1 rfl (lv_at hl 1 rfl) ?_
  refine rc_X8_83 X hW x1 ⟨⟨rfl, rfl⟩, Nat.le_of_ble_eq_true rfl, Nat.le_of_ble_eq_true rfl⟩ hl.1 (Nat.le_of_ble_eq_true rfl) dX8_gains_2 ⟨Nat.zero_le _, Nat.zero_le _⟩ (fun H locs hW => ?_)
  refine lv_aload_n hx hb dX8_gains_5 rfl (lv_at hl 0 rfl) ?_
  refine lv_iload_n hx hb dX8_gains_6 rfl (lv_at hl 2 rfl) ?_
  refine rc_X8_107 X hW x2 ⟨⟨rfl, rfl⟩, Nat.le_of_ble_eq_true rfl, Nat.le_of_ble_eq_true rfl⟩ hl.1 (Nat.le_of_ble_eq_true rfl) dX8_gains_7 ⟨Nat.zero_le _, Nat.zero_le _⟩ (fun H locs hW => ?_)
  refine rc_X8_51 X hW (f_X8_potThere σ x1) (f_X8_personThere σ x2) ⟨⟨rfl, rfl⟩, Nat.le_of_ble_eq_true rfl, Nat.le_of_ble_eq_true rfl⟩ hl.1 (Nat.le_of_ble_eq_true rfl) dX8_gains_10 ⟨Nat.zero_le _, Nat.zero_le _⟩ (fun H locs hW => ?_)
  refine lv_topi (fun v13 e13 => ?_)
  have h := lb_letI e13 h
  refine lv_istore_n (lv' := [(3, .int v13), (0, .ref (lb_ad G 0)), (1, .int x1), (2, .int x2)]) hx hb dX8_gains_13 rfl hl (by decide) rfl (fun ls hl => ?_)
  refine lv_iload_n hx hb dX8_gains_14 rfl (lv_at hl 0 rfl) ?_
  refine lv_if_eq (tgt := 26) hx hb dX8_gains_15 (by decide) (fun c15 => ?_) (fun c15 => ?_)
  · have h := (if_pos c15).symm.trans h
    refine lv_aload_n hx hb dX8_gains_26 rfl (lv_at hl 1 rfl) ?_
    refine rg_X8_10 X hW dX8_gains_27 ?_
    refine lv_iload_n hx hb dX8_gains_30 rfl (lv_at hl 2 rfl) ?_
    refine lv_iload_n hx hb dX8_gains_31 rfl (lv_at hl 3 rfl) ?_
    obtain ⟨q32, e32, h⟩ := lb_bind h
    refine rc_X8_125 X hW lb_V1 e32 ⟨⟨rfl, rfl⟩, Nat.le_of_ble_eq_true rfl, Nat.le_of_ble_eq_true rfl⟩ hl.1 (Nat.le_of_ble_eq_true rfl) dX8_gains_32 ⟨Nat.zero_le _, Nat.zero_le _⟩ (fun H locs hW => ?_)
    obtain rfl := Option.some.inj h
    exact lb_iret X hW dX8_gains_35
  · have h := (if_neg c15).symm.trans h
    refine lv_aload_n hx hb dX8_gains_18 rfl (lv_at hl 1 rfl) ?_
    refine lv_iload_n hx hb dX8_gains_19 rfl (lv_at hl 0 rfl) ?_
    obtain ⟨q20, e20, h⟩ := lb_bind h
    refine rc_X8_122 X hW e20 ⟨⟨rfl, rfl⟩, Nat.le_of_ble_eq_true rfl, Nat.le_of_ble_eq_true rfl⟩ hl.1 (Nat.le_of_ble_eq_true rfl) dX8_gains_20 ⟨Nat.zero_le _, Nat.zero_le _⟩ (fun H locs hW => ?_)
    refine lv_goto (tgt := 35) hx hb dX8_gains_23 (by decide) ?_
    obtain rfl := Option.some.inj h
    exact lb_iret X hW dX8_gains_35
theorem rc_X8_128 {p : Program} {l : Launch} {e : Env} {R : Room} {s : State} {m : MethodId} {args : Array Value} {below : List Frame} {meth : Method} {c : Code} {H : Heap} {locs : List Loc} {cells slots : Nat} {Q : State → Prop} {cc : ByteArray} {pc nL : Nat} {ls : Array Slot} {rest : List Value} {G : lb_G} {σ : lb_Mem} {ret : Option FieldType} (X : lb_C G p s m args meth c cc nL RX8 ret) (hW : lb_W G s σ H locs) (x0 : Int32) (hR : lb_room rmX7_isLabel R 1) (hls : ls.size = nL) (hrest : (rest.map fun v => v.category).sum ≤ 8) (d : decode cc pc = .ok (.invokestatic 128, 3)) (hcap : cells ≤ R.cells ∧ slots ≤ R.slots) (kk : ∀ (H1 : Heap) (locs1 : List Loc), lb_W G s σ H1 locs1 → W p l e R s m args below meth c H1 locs1 cells slots Q (F0 m (pc + 3) ls (.int (f_X7_isLabel x0) :: rest))) : W p l e R s m args below meth c H locs cells slots Q (F0 m pc ls (.int x0 :: rest)) :=
  lb_goI hW (lb_runS (As := [.int x0]) X hW (m_X7_isLabel l G σ x0 _ rfl) (n := 1) ⟨qw_496, qw_44, qw_370, by decide +kernel⟩ hR qw_369 rfl hls hrest d hcap) kk
abbrev rmX8_labels : Room := { frames := 2, cells := 0, slots := 0, locals := 42 }
def f_X8_labels_17 (x1 : Int32) (x2 : Int32) (σ : lb_Mem) (y0 : Int32) (y1 : Int32) : Option (Int32 × lb_Mem) := lb_let ((f_X8_first y0 y1)) (fun v20 : Int32 => if v20 = 0 then lb_chk (lb_ix x1 8) (lb_let ((σ 12 x1.toNatClampNeg)) (fun v40 : Int32 => lb_chk (lb_ix x1 8) (lb_let (lb_sto σ 12 x1.toNatClampNeg x2) (fun s51 : lb_Mem => some (v40, s51))))) else (f_X8_refuse v20 σ).bind (fun q27 => some (q27.1, q27.2)))
set_option maxRecDepth 20000 in
set_option maxHeartbeats 4000000 in
theorem w_X8_labels_17 {p : Program} {l : Launch} {e : Env} {s : State} {m : MethodId} {args : Array Value} {below : List Frame} {meth : Method} {c : Code} {G : lb_G} {qr : (Int32 × lb_Mem)} (X : lb_C G p s m args meth c cX8_labels 5 RX8 (some .int)) : ∀ (x1 : Int32) (x2 : Int32) (σ : lb_Mem) (y0 : Int32) (y1 : Int32) (H : Heap) (locs : List Loc) (ls : Array Slot), f_X8_labels_17 x1 x2 σ y0 y1 = some qr → lb_W G s σ H locs → lv_has ls 5 [(0, .ref (lb_ad G 0)), (1, .int x1), (2, .int x2)] → W p l e rmX8_labels s m args below meth c H locs 0 0 (MQ below (lb_QI G qr.1 qr.2) args s 0 0 (lb_A G)) (F0 m 17 ls [.int y1, .int y0]) := by
  have hx := X.1
  have hb := X.2.1
  intro x1 x2 σ y0 y1 H locs ls h hW hl
  have h : (lb_let ((f_X8_first y0 y1)) (fun v20 : Int32 => if v20 = 0 then lb_chk (lb_ix x1 8) (lb_let ((σ 12 x1.toNatClampNeg)) (fun v40 : Int32 => lb_chk (lb_ix x1 8) (lb_let (lb_sto σ 12 x1.toNatClampNeg x2) (fun s51 : lb_Mem => some (v40, s51))))) else (f_X8_refuse v20 σ).bind (fun q27 => some (q27.1, q27.2)))) = some qr := h
  refine rc_X8_51 X hW y0 y1 ⟨⟨rfl, rfl⟩, Nat.le_of_ble_eq_true rfl, Nat.le_of_ble_eq_true rfl⟩ hl.1 (Nat.le_of_ble_eq_true rfl) dX8_labels_17 ⟨Nat.zero_le _, Nat.zero_le _⟩ (fun H locs hW => ?_)
  refine lv_topi (fun v20 e20 => ?_)
  have h := lb_letI e20 h
  refine lv_istore_n (lv' := [(3, .int v20), (0, .ref (lb_ad G 0)), (1, .int x1), (2, .int x2)]) hx hb dX8_labels_20 rfl hl (by decide) rfl (fun ls hl => ?_)
  refine lv_iload_n hx hb dX8_labels_21 rfl (lv_at hl 0 rfl) ?_
  refine lv_if_eq (tgt := 31) hx hb dX8_labels_22 (by decide) (fun c22 => ?_) (fun c22 => ?_)
  · have h := (if_pos c22).symm.trans h
    refine lv_aload_n hx hb dX8_labels_31 rfl (lv_at hl 1 rfl) ?_
    refine rg_X8_10 X hW dX8_labels_32 ?_
    refine rg_X8_98 (k := 12) X hW lb_V1 rfl dX8_labels_35 ?_
    refine lv_iload_n hx hb dX8_labels_38 rfl (lv_at hl 2 rfl) ?_
    obtain ⟨i39, h⟩ := lb_chk_in h
    refine lb_ild X hW (show lb_ar 12 = 7 + 1 from rfl) i39 dX8_labels_39 ?_
    refine lv_topi (fun v40 e40 => ?_)
    have h := lb_letI e40 h
    refine lv_istore (lv' := [(4, .int v40), (3, .int v20), (0, .ref (lb_ad G 0)), (1, .int x1), (2, .int x2)]) hx hb dX8_labels_40 hl (by decide) rfl (fun ls hl => ?_)
    refine lv_aload_n hx hb dX8_labels_42 rfl (lv_at hl 2 rfl) ?_
    refine rg_X8_10 X hW dX8_labels_43 ?_
    refine rg_X8_98 (k := 12) X hW lb_V1 rfl dX8_labels_46 ?_
    refine lv_iload_n hx hb dX8_labels_49 rfl (lv_at hl 3 rfl) ?_
    refine lv_iload_n hx hb dX8_labels_50 rfl (lv_at hl 4 rfl) ?_
    obtain ⟨i51, h⟩ := lb_chk_in h
    refine lb_ist X hW (show lb_ar 12 = 7 + 1 from rfl) i51 dX8_labels_51 (fun H locs hW => ?_)
    obtain ⟨s51, e51⟩ : ∃ z, z = lb_sto σ 12 x1.toNatClampNeg x2 := ⟨_, rfl⟩
    rw [← e51] at hW
    have h := lb_letI e51 h
    refine lv_iload hx hb dX8_labels_52 (lv_at hl 0 rfl) ?_
    obtain rfl := Option.some.inj h
    exact lb_iret X hW dX8_labels_54
  · have h := (if_neg c22).symm.trans h
    refine lv_aload_n hx hb dX8_labels_25 rfl (lv_at hl 1 rfl) ?_
    refine lv_iload_n hx hb dX8_labels_26 rfl (lv_at hl 0 rfl) ?_
    obtain ⟨q27, e27, h⟩ := lb_bind h
    refine rc_X8_55 X hW e27 ⟨⟨rfl, rfl⟩, Nat.le_of_ble_eq_true rfl, Nat.le_of_ble_eq_true rfl⟩ hl.1 (Nat.le_of_ble_eq_true rfl) dX8_labels_27 ⟨Nat.zero_le _, Nat.zero_le _⟩ (fun H locs hW => ?_)
    obtain rfl := Option.some.inj h
    exact lb_iret X hW dX8_labels_30
def f_X8_labels (x1 : Int32) (x2 : Int32) (σ : lb_Mem) : Option (Int32 × lb_Mem) := if (f_X7_isLabel x2) = 0 then f_X8_labels_17 x1 x2 σ (f_X8_potThere σ x1) (-1 : Int32) else f_X8_labels_17 x1 x2 σ (f_X8_potThere σ x1) (0 : Int32)
set_option maxRecDepth 20000 in
set_option maxHeartbeats 4000000 in
theorem m_X8_labels (l : Launch) (G : lb_G) (σ : lb_Mem) (x1 : Int32) (x2 : Int32) (qr : (Int32 × lb_Mem)) (h : f_X8_labels x1 x2 σ = some qr) : lb_M l yX8_labels cX8_labels 5 (some .int) rmX8_labels [.ref (lb_ad G 0), .int x1, .int x2] G σ (lb_QI G qr.1 qr.2) := by
  refine lb_start RX8 (by decide +kernel) rfl (Nat.le_of_ble_eq_true rfl) (fun p e s m below meth c X hW ls hl => ?_)
  have hx := X.1
  have hb := X.2.1
  have hl : lv_has ls 5 [(0, .ref (lb_ad G 0)), (1, .int x1), (2, .int x2)] := hl
  have h : (if (f_X7_isLabel x2) = 0 then f_X8_labels_17 x1 x2 σ (f_X8_potThere σ x1) (-1 : Int32) else f_X8_labels_17 x1 x2 σ (f_X8_potThere σ x1) (0 : Int32)) = some qr := h
  skip
  refine lv_aload_n hx hb dX8_labels_0 rfl (lv_at hl 0 rfl) ?_
  refine lv_iload_n hx hb dX8_labels_1 rfl (lv_at hl 1 rfl) ?_
  refine rc_X8_83 X hW x1 ⟨⟨rfl, rfl⟩, Nat.le_of_ble_eq_true rfl, Nat.le_of_ble_eq_true rfl⟩ hl.1 (Nat.le_of_ble_eq_true rfl) dX8_labels_2 ⟨Nat.zero_le _, Nat.zero_le _⟩ (fun H locs hW => ?_)
  refine lv_iload_n hx hb dX8_labels_5 rfl (lv_at hl 2 rfl) ?_
  refine rc_X8_128 X hW x2 ⟨⟨rfl, rfl⟩, Nat.le_of_ble_eq_true rfl, Nat.le_of_ble_eq_true rfl⟩ hl.1 (Nat.le_of_ble_eq_true rfl) dX8_labels_6 ⟨Nat.zero_le _, Nat.zero_le _⟩ (fun H locs hW => ?_)
  refine lv_if_eq (tgt := 16) hx hb dX8_labels_9 (by decide) (fun c9 => ?_) (fun c9 => ?_)
  · have h := (if_pos c9).symm.trans h
    refine lv_iconst (v := -1) hx hb dX8_labels_16 rfl ?_
    exact w_X8_labels_17 X x1 x2 σ (f_X8_potThere σ x1) (-1 : Int32) _ _ _ h hW (lv_sub hl [0, 1, 2] rfl)
  · have h := (if_neg c9).symm.trans h
    refine lv_iconst (v := 0) hx hb dX8_labels_12 rfl ?_
    refine lv_goto (tgt := 17) hx hb dX8_labels_13 (by decide) ?_
    exact w_X8_labels_17 X x1 x2 σ (f_X8_potThere σ x1) (0 : Int32) _ _ _ h hW (lv_sub hl [0, 1, 2] rfl)
abbrev rmX8_gives : Room := { frames := 2, cells := 0, slots := 0, locals := 42 }
def f_X8_gives (x1 : Int32) (x2 : Int32) (σ : lb_Mem) : Option (Int32 × lb_Mem) := lb_let ((f_X8_first (f_X8_potThere σ x1) (f_X8_personThere σ x2))) (fun v13 : Int32 => if v13 = 0 then lb_chk (lb_ix x1 8) (lb_let ((σ 14 x1.toNatClampNeg)) (fun v33 : Int32 => lb_chk (lb_ix x1 8) (lb_let (lb_sto σ 14 x1.toNatClampNeg x2) (fun s44 : lb_Mem => some (v33, s44))))) else (f_X8_refuse v13 σ).bind (fun q20 => some (q20.1, q20.2)))
set_option maxRecDepth 20000 in
set_option maxHeartbeats 4000000 in
theorem m_X8_gives (l : Launch) (G : lb_G) (σ : lb_Mem) (x1 : Int32) (x2 : Int32) (qr : (Int32 × lb_Mem)) (h : f_X8_gives x1 x2 σ = some qr) : lb_M l yX8_gives cX8_gives 5 (some .int) rmX8_gives [.ref (lb_ad G 0), .int x1, .int x2] G σ (lb_QI G qr.1 qr.2) := by
  refine lb_start RX8 (by decide +kernel) rfl (Nat.le_of_ble_eq_true rfl) (fun p e s m below meth c X hW ls hl => ?_)
  have hx := X.1
  have hb := X.2.1
  have hl : lv_has ls 5 [(0, .ref (lb_ad G 0)), (1, .int x1), (2, .int x2)] := hl
  have h : (lb_let ((f_X8_first (f_X8_potThere σ x1) (f_X8_personThere σ x2))) (fun v13 : Int32 => if v13 = 0 then lb_chk (lb_ix x1 8) (lb_let ((σ 14 x1.toNatClampNeg)) (fun v33 : Int32 => lb_chk (lb_ix x1 8) (lb_let (lb_sto σ 14 x1.toNatClampNeg x2) (fun s44 : lb_Mem => some (v33, s44))))) else (f_X8_refuse v13 σ).bind (fun q20 => some (q20.1, q20.2)))) = some qr := h
  skip
  refine lv_aload_n hx hb dX8_gives_0 rfl (lv_at hl 0 rfl) ?_
  refine lv_iload_n hx hb dX8_gives_1 rfl (lv_at hl 1 rfl) ?_
  refine rc_X8_83 X hW x1 ⟨⟨rfl, rfl⟩, Nat.le_of_ble_eq_true rfl, Nat.le_of_ble_eq_true rfl⟩ hl.1 (Nat.le_of_ble_eq_true rfl) dX8_gives_2 ⟨Nat.zero_le _, Nat.zero_le _⟩ (fun H locs hW => ?_)
  refine lv_aload_n hx hb dX8_gives_5 rfl (lv_at hl 0 rfl) ?_
  refine lv_iload_n hx hb dX8_gives_6 rfl (lv_at hl 2 rfl) ?_
  refine rc_X8_107 X hW x2 ⟨⟨rfl, rfl⟩, Nat.le_of_ble_eq_true rfl, Nat.le_of_ble_eq_true rfl⟩ hl.1 (Nat.le_of_ble_eq_true rfl) dX8_gives_7 ⟨Nat.zero_le _, Nat.zero_le _⟩ (fun H locs hW => ?_)
  refine rc_X8_51 X hW (f_X8_potThere σ x1) (f_X8_personThere σ x2) ⟨⟨rfl, rfl⟩, Nat.le_of_ble_eq_true rfl, Nat.le_of_ble_eq_true rfl⟩ hl.1 (Nat.le_of_ble_eq_true rfl) dX8_gives_10 ⟨Nat.zero_le _, Nat.zero_le _⟩ (fun H locs hW => ?_)
  refine lv_topi (fun v13 e13 => ?_)
  have h := lb_letI e13 h
  refine lv_istore_n (lv' := [(3, .int v13), (0, .ref (lb_ad G 0)), (1, .int x1), (2, .int x2)]) hx hb dX8_gives_13 rfl hl (by decide) rfl (fun ls hl => ?_)
  refine lv_iload_n hx hb dX8_gives_14 rfl (lv_at hl 0 rfl) ?_
  refine lv_if_eq (tgt := 24) hx hb dX8_gives_15 (by decide) (fun c15 => ?_) (fun c15 => ?_)
  · have h := (if_pos c15).symm.trans h
    refine lv_aload_n hx hb dX8_gives_24 rfl (lv_at hl 1 rfl) ?_
    refine rg_X8_10 X hW dX8_gives_25 ?_
    refine rg_X8_104 (k := 14) X hW lb_V1 rfl dX8_gives_28 ?_
    refine lv_iload_n hx hb dX8_gives_31 rfl (lv_at hl 2 rfl) ?_
    obtain ⟨i32, h⟩ := lb_chk_in h
    refine lb_ild X hW (show lb_ar 14 = 7 + 1 from rfl) i32 dX8_gives_32 ?_
    refine lv_topi (fun v33 e33 => ?_)
    have h := lb_letI e33 h
    refine lv_istore (lv' := [(4, .int v33), (3, .int v13), (0, .ref (lb_ad G 0)), (1, .int x1), (2, .int x2)]) hx hb dX8_gives_33 hl (by decide) rfl (fun ls hl => ?_)
    refine lv_aload_n hx hb dX8_gives_35 rfl (lv_at hl 2 rfl) ?_
    refine rg_X8_10 X hW dX8_gives_36 ?_
    refine rg_X8_104 (k := 14) X hW lb_V1 rfl dX8_gives_39 ?_
    refine lv_iload_n hx hb dX8_gives_42 rfl (lv_at hl 3 rfl) ?_
    refine lv_iload_n hx hb dX8_gives_43 rfl (lv_at hl 4 rfl) ?_
    obtain ⟨i44, h⟩ := lb_chk_in h
    refine lb_ist X hW (show lb_ar 14 = 7 + 1 from rfl) i44 dX8_gives_44 (fun H locs hW => ?_)
    obtain ⟨s44, e44⟩ : ∃ z, z = lb_sto σ 14 x1.toNatClampNeg x2 := ⟨_, rfl⟩
    rw [← e44] at hW
    have h := lb_letI e44 h
    refine lv_iload hx hb dX8_gives_45 (lv_at hl 0 rfl) ?_
    obtain rfl := Option.some.inj h
    exact lb_iret X hW dX8_gives_47
  · have h := (if_neg c15).symm.trans h
    refine lv_aload_n hx hb dX8_gives_18 rfl (lv_at hl 1 rfl) ?_
    refine lv_iload_n hx hb dX8_gives_19 rfl (lv_at hl 0 rfl) ?_
    obtain ⟨q20, e20, h⟩ := lb_bind h
    refine rc_X8_55 X hW e20 ⟨⟨rfl, rfl⟩, Nat.le_of_ble_eq_true rfl, Nat.le_of_ble_eq_true rfl⟩ hl.1 (Nat.le_of_ble_eq_true rfl) dX8_gives_20 ⟨Nat.zero_le _, Nat.zero_le _⟩ (fun H locs hW => ?_)
    obtain rfl := Option.some.inj h
    exact lb_iret X hW dX8_gives_23
theorem rc_X8_132 {p : Program} {l : Launch} {e : Env} {R : Room} {s : State} {m : MethodId} {args : Array Value} {below : List Frame} {meth : Method} {c : Code} {H : Heap} {locs : List Loc} {cells slots : Nat} {Q : State → Prop} {cc : ByteArray} {pc nL : Nat} {ls : Array Slot} {rest : List Value} {G : lb_G} {σ : lb_Mem} {ret : Option FieldType} (X : lb_C G p s m args meth c cc nL RX8 ret) (hW : lb_W G s σ H locs) (x0 : Int32) (hR : lb_room rmX7_isSort R 1) (hls : ls.size = nL) (hrest : (rest.map fun v => v.category).sum ≤ 8) (d : decode cc pc = .ok (.invokestatic 132, 3)) (hcap : cells ≤ R.cells ∧ slots ≤ R.slots) (kk : ∀ (H1 : Heap) (locs1 : List Loc), lb_W G s σ H1 locs1 → W p l e R s m args below meth c H1 locs1 cells slots Q (F0 m (pc + 3) ls (.int (f_X7_isSort x0) :: rest))) : W p l e R s m args below meth c H locs cells slots Q (F0 m pc ls (.int x0 :: rest)) :=
  lb_goI hW (lb_runS (As := [.int x0]) X hW (m_X7_isSort l G σ x0 _ rfl) (n := 1) ⟨qw_505, qw_44, qw_359, by decide +kernel⟩ hR qw_358 rfl hls hrest d hcap) kk
abbrev rmX8_likes : Room := { frames := 2, cells := 0, slots := 0, locals := 42 }
def f_X8_likes_17 (x1 : Int32) (x2 : Int32) (σ : lb_Mem) (y0 : Int32) (y1 : Int32) : Option (Int32 × lb_Mem) := lb_let ((f_X8_first y0 y1)) (fun v20 : Int32 => if v20 = 0 then lb_chk (lb_ix x1 5) (lb_let ((σ 15 x1.toNatClampNeg)) (fun v40 : Int32 => lb_chk (lb_ix x1 5) (lb_let (lb_sto σ 15 x1.toNatClampNeg x2) (fun s51 : lb_Mem => some (v40, s51))))) else (f_X8_refuse v20 σ).bind (fun q27 => some (q27.1, q27.2)))
set_option maxRecDepth 20000 in
set_option maxHeartbeats 4000000 in
theorem w_X8_likes_17 {p : Program} {l : Launch} {e : Env} {s : State} {m : MethodId} {args : Array Value} {below : List Frame} {meth : Method} {c : Code} {G : lb_G} {qr : (Int32 × lb_Mem)} (X : lb_C G p s m args meth c cX8_likes 5 RX8 (some .int)) : ∀ (x1 : Int32) (x2 : Int32) (σ : lb_Mem) (y0 : Int32) (y1 : Int32) (H : Heap) (locs : List Loc) (ls : Array Slot), f_X8_likes_17 x1 x2 σ y0 y1 = some qr → lb_W G s σ H locs → lv_has ls 5 [(0, .ref (lb_ad G 0)), (1, .int x1), (2, .int x2)] → W p l e rmX8_likes s m args below meth c H locs 0 0 (MQ below (lb_QI G qr.1 qr.2) args s 0 0 (lb_A G)) (F0 m 17 ls [.int y1, .int y0]) := by
  have hx := X.1
  have hb := X.2.1
  intro x1 x2 σ y0 y1 H locs ls h hW hl
  have h : (lb_let ((f_X8_first y0 y1)) (fun v20 : Int32 => if v20 = 0 then lb_chk (lb_ix x1 5) (lb_let ((σ 15 x1.toNatClampNeg)) (fun v40 : Int32 => lb_chk (lb_ix x1 5) (lb_let (lb_sto σ 15 x1.toNatClampNeg x2) (fun s51 : lb_Mem => some (v40, s51))))) else (f_X8_refuse v20 σ).bind (fun q27 => some (q27.1, q27.2)))) = some qr := h
  refine rc_X8_51 X hW y0 y1 ⟨⟨rfl, rfl⟩, Nat.le_of_ble_eq_true rfl, Nat.le_of_ble_eq_true rfl⟩ hl.1 (Nat.le_of_ble_eq_true rfl) dX8_likes_17 ⟨Nat.zero_le _, Nat.zero_le _⟩ (fun H locs hW => ?_)
  refine lv_topi (fun v20 e20 => ?_)
  have h := lb_letI e20 h
  refine lv_istore_n (lv' := [(3, .int v20), (0, .ref (lb_ad G 0)), (1, .int x1), (2, .int x2)]) hx hb dX8_likes_20 rfl hl (by decide) rfl (fun ls hl => ?_)
  refine lv_iload_n hx hb dX8_likes_21 rfl (lv_at hl 0 rfl) ?_
  refine lv_if_eq (tgt := 31) hx hb dX8_likes_22 (by decide) (fun c22 => ?_) (fun c22 => ?_)
  · have h := (if_pos c22).symm.trans h
    refine lv_aload_n hx hb dX8_likes_31 rfl (lv_at hl 1 rfl) ?_
    refine rg_X8_10 X hW dX8_likes_32 ?_
    refine rg_X8_110 (k := 15) X hW lb_V1 rfl dX8_likes_35 ?_
    refine lv_iload_n hx hb dX8_likes_38 rfl (lv_at hl 2 rfl) ?_
    obtain ⟨i39, h⟩ := lb_chk_in h
    refine lb_ild X hW (show lb_ar 15 = 4 + 1 from rfl) i39 dX8_likes_39 ?_
    refine lv_topi (fun v40 e40 => ?_)
    have h := lb_letI e40 h
    refine lv_istore (lv' := [(4, .int v40), (3, .int v20), (0, .ref (lb_ad G 0)), (1, .int x1), (2, .int x2)]) hx hb dX8_likes_40 hl (by decide) rfl (fun ls hl => ?_)
    refine lv_aload_n hx hb dX8_likes_42 rfl (lv_at hl 2 rfl) ?_
    refine rg_X8_10 X hW dX8_likes_43 ?_
    refine rg_X8_110 (k := 15) X hW lb_V1 rfl dX8_likes_46 ?_
    refine lv_iload_n hx hb dX8_likes_49 rfl (lv_at hl 3 rfl) ?_
    refine lv_iload_n hx hb dX8_likes_50 rfl (lv_at hl 4 rfl) ?_
    obtain ⟨i51, h⟩ := lb_chk_in h
    refine lb_ist X hW (show lb_ar 15 = 4 + 1 from rfl) i51 dX8_likes_51 (fun H locs hW => ?_)
    obtain ⟨s51, e51⟩ : ∃ z, z = lb_sto σ 15 x1.toNatClampNeg x2 := ⟨_, rfl⟩
    rw [← e51] at hW
    have h := lb_letI e51 h
    refine lv_iload hx hb dX8_likes_52 (lv_at hl 0 rfl) ?_
    obtain rfl := Option.some.inj h
    exact lb_iret X hW dX8_likes_54
  · have h := (if_neg c22).symm.trans h
    refine lv_aload_n hx hb dX8_likes_25 rfl (lv_at hl 1 rfl) ?_
    refine lv_iload_n hx hb dX8_likes_26 rfl (lv_at hl 0 rfl) ?_
    obtain ⟨q27, e27, h⟩ := lb_bind h
    refine rc_X8_55 X hW e27 ⟨⟨rfl, rfl⟩, Nat.le_of_ble_eq_true rfl, Nat.le_of_ble_eq_true rfl⟩ hl.1 (Nat.le_of_ble_eq_true rfl) dX8_likes_27 ⟨Nat.zero_le _, Nat.zero_le _⟩ (fun H locs hW => ?_)
    obtain rfl := Option.some.inj h
    exact lb_iret X hW dX8_likes_30
def f_X8_likes (x1 : Int32) (x2 : Int32) (σ : lb_Mem) : Option (Int32 × lb_Mem) := if (f_X7_isSort x2) = 0 then f_X8_likes_17 x1 x2 σ (f_X8_personThere σ x1) (-1 : Int32) else f_X8_likes_17 x1 x2 σ (f_X8_personThere σ x1) (0 : Int32)
set_option maxRecDepth 20000 in
set_option maxHeartbeats 4000000 in
theorem m_X8_likes (l : Launch) (G : lb_G) (σ : lb_Mem) (x1 : Int32) (x2 : Int32) (qr : (Int32 × lb_Mem)) (h : f_X8_likes x1 x2 σ = some qr) : lb_M l yX8_likes cX8_likes 5 (some .int) rmX8_likes [.ref (lb_ad G 0), .int x1, .int x2] G σ (lb_QI G qr.1 qr.2) := by
  refine lb_start RX8 (by decide +kernel) rfl (Nat.le_of_ble_eq_true rfl) (fun p e s m below meth c X hW ls hl => ?_)
  have hx := X.1
  have hb := X.2.1
  have hl : lv_has ls 5 [(0, .ref (lb_ad G 0)), (1, .int x1), (2, .int x2)] := hl
  have h : (if (f_X7_isSort x2) = 0 then f_X8_likes_17 x1 x2 σ (f_X8_personThere σ x1) (-1 : Int32) else f_X8_likes_17 x1 x2 σ (f_X8_personThere σ x1) (0 : Int32)) = some qr := h
  skip
  refine lv_aload_n hx hb dX8_likes_0 rfl (lv_at hl 0 rfl) ?_
  refine lv_iload_n hx hb dX8_likes_1 rfl (lv_at hl 1 rfl) ?_
  refine rc_X8_107 X hW x1 ⟨⟨rfl, rfl⟩, Nat.le_of_ble_eq_true rfl, Nat.le_of_ble_eq_true rfl⟩ hl.1 (Nat.le_of_ble_eq_true rfl) dX8_likes_2 ⟨Nat.zero_le _, Nat.zero_le _⟩ (fun H locs hW => ?_)
  refine lv_iload_n hx hb dX8_likes_5 rfl (lv_at hl 2 rfl) ?_
  refine rc_X8_132 X hW x2 ⟨⟨rfl, rfl⟩, Nat.le_of_ble_eq_true rfl, Nat.le_of_ble_eq_true rfl⟩ hl.1 (Nat.le_of_ble_eq_true rfl) dX8_likes_6 ⟨Nat.zero_le _, Nat.zero_le _⟩ (fun H locs hW => ?_)
  refine lv_if_eq (tgt := 16) hx hb dX8_likes_9 (by decide) (fun c9 => ?_) (fun c9 => ?_)
  · have h := (if_pos c9).symm.trans h
    refine lv_iconst (v := -1) hx hb dX8_likes_16 rfl ?_
    exact w_X8_likes_17 X x1 x2 σ (f_X8_personThere σ x1) (-1 : Int32) _ _ _ h hW (lv_sub hl [0, 1, 2] rfl)
  · have h := (if_neg c9).symm.trans h
    refine lv_iconst (v := 0) hx hb dX8_likes_12 rfl ?_
    refine lv_goto (tgt := 17) hx hb dX8_likes_13 (by decide) ?_
    exact w_X8_likes_17 X x1 x2 σ (f_X8_personThere σ x1) (0 : Int32) _ _ _ h hW (lv_sub hl [0, 1, 2] rfl)
abbrev rmX8_fills : Room := { frames := 2, cells := 0, slots := 0, locals := 42 }
def f_X8_fills (x1 : Int32) (x2 : Int32) (σ : lb_Mem) : Option (Int32 × lb_Mem) := lb_let ((f_X8_first (f_X8_potThere σ x1) (f_X8_within x2 (0 : Int32) (9 : Int32)))) (fun v15 : Int32 => if v15 = 0 then lb_chk (lb_ix x1 8) (lb_let ((σ 13 x1.toNatClampNeg)) (fun v35 : Int32 => lb_chk (lb_ix x1 8) (lb_let (lb_sto σ 13 x1.toNatClampNeg x2) (fun s46 : lb_Mem => some (v35, s46))))) else (f_X8_refuse v15 σ).bind (fun q22 => some (q22.1, q22.2)))
set_option maxRecDepth 20000 in
set_option maxHeartbeats 4000000 in
theorem m_X8_fills (l : Launch) (G : lb_G) (σ : lb_Mem) (x1 : Int32) (x2 : Int32) (qr : (Int32 × lb_Mem)) (h : f_X8_fills x1 x2 σ = some qr) : lb_M l yX8_fills cX8_fills 5 (some .int) rmX8_fills [.ref (lb_ad G 0), .int x1, .int x2] G σ (lb_QI G qr.1 qr.2) := by
  refine lb_start RX8 (by decide +kernel) rfl (Nat.le_of_ble_eq_true rfl) (fun p e s m below meth c X hW ls hl => ?_)
  have hx := X.1
  have hb := X.2.1
  have hl : lv_has ls 5 [(0, .ref (lb_ad G 0)), (1, .int x1), (2, .int x2)] := hl
  have h : (lb_let ((f_X8_first (f_X8_potThere σ x1) (f_X8_within x2 (0 : Int32) (9 : Int32)))) (fun v15 : Int32 => if v15 = 0 then lb_chk (lb_ix x1 8) (lb_let ((σ 13 x1.toNatClampNeg)) (fun v35 : Int32 => lb_chk (lb_ix x1 8) (lb_let (lb_sto σ 13 x1.toNatClampNeg x2) (fun s46 : lb_Mem => some (v35, s46))))) else (f_X8_refuse v15 σ).bind (fun q22 => some (q22.1, q22.2)))) = some qr := h
  skip
  refine lv_aload_n hx hb dX8_fills_0 rfl (lv_at hl 0 rfl) ?_
  refine lv_iload_n hx hb dX8_fills_1 rfl (lv_at hl 1 rfl) ?_
  refine rc_X8_83 X hW x1 ⟨⟨rfl, rfl⟩, Nat.le_of_ble_eq_true rfl, Nat.le_of_ble_eq_true rfl⟩ hl.1 (Nat.le_of_ble_eq_true rfl) dX8_fills_2 ⟨Nat.zero_le _, Nat.zero_le _⟩ (fun H locs hW => ?_)
  refine lv_iload_n hx hb dX8_fills_5 rfl (lv_at hl 2 rfl) ?_
  refine lv_iconst (v := 0) hx hb dX8_fills_6 rfl ?_
  refine lv_bipush (v := 9) hx hb dX8_fills_7 rfl ?_
  refine rc_X8_44 X hW x2 (0 : Int32) (9 : Int32) ⟨⟨rfl, rfl⟩, Nat.le_of_ble_eq_true rfl, Nat.le_of_ble_eq_true rfl⟩ hl.1 (Nat.le_of_ble_eq_true rfl) dX8_fills_9 ⟨Nat.zero_le _, Nat.zero_le _⟩ (fun H locs hW => ?_)
  refine rc_X8_51 X hW (f_X8_potThere σ x1) (f_X8_within x2 (0 : Int32) (9 : Int32)) ⟨⟨rfl, rfl⟩, Nat.le_of_ble_eq_true rfl, Nat.le_of_ble_eq_true rfl⟩ hl.1 (Nat.le_of_ble_eq_true rfl) dX8_fills_12 ⟨Nat.zero_le _, Nat.zero_le _⟩ (fun H locs hW => ?_)
  refine lv_topi (fun v15 e15 => ?_)
  have h := lb_letI e15 h
  refine lv_istore_n (lv' := [(3, .int v15), (0, .ref (lb_ad G 0)), (1, .int x1), (2, .int x2)]) hx hb dX8_fills_15 rfl hl (by decide) rfl (fun ls hl => ?_)
  refine lv_iload_n hx hb dX8_fills_16 rfl (lv_at hl 0 rfl) ?_
  refine lv_if_eq (tgt := 26) hx hb dX8_fills_17 (by decide) (fun c17 => ?_) (fun c17 => ?_)
  · have h := (if_pos c17).symm.trans h
    refine lv_aload_n hx hb dX8_fills_26 rfl (lv_at hl 1 rfl) ?_
    refine rg_X8_10 X hW dX8_fills_27 ?_
    refine rg_X8_101 (k := 13) X hW lb_V1 rfl dX8_fills_30 ?_
    refine lv_iload_n hx hb dX8_fills_33 rfl (lv_at hl 2 rfl) ?_
    obtain ⟨i34, h⟩ := lb_chk_in h
    refine lb_ild X hW (show lb_ar 13 = 7 + 1 from rfl) i34 dX8_fills_34 ?_
    refine lv_topi (fun v35 e35 => ?_)
    have h := lb_letI e35 h
    refine lv_istore (lv' := [(4, .int v35), (3, .int v15), (0, .ref (lb_ad G 0)), (1, .int x1), (2, .int x2)]) hx hb dX8_fills_35 hl (by decide) rfl (fun ls hl => ?_)
    refine lv_aload_n hx hb dX8_fills_37 rfl (lv_at hl 2 rfl) ?_
    refine rg_X8_10 X hW dX8_fills_38 ?_
    refine rg_X8_101 (k := 13) X hW lb_V1 rfl dX8_fills_41 ?_
    refine lv_iload_n hx hb dX8_fills_44 rfl (lv_at hl 3 rfl) ?_
    refine lv_iload_n hx hb dX8_fills_45 rfl (lv_at hl 4 rfl) ?_
    obtain ⟨i46, h⟩ := lb_chk_in h
    refine lb_ist X hW (show lb_ar 13 = 7 + 1 from rfl) i46 dX8_fills_46 (fun H locs hW => ?_)
    obtain ⟨s46, e46⟩ : ∃ z, z = lb_sto σ 13 x1.toNatClampNeg x2 := ⟨_, rfl⟩
    rw [← e46] at hW
    have h := lb_letI e46 h
    refine lv_iload hx hb dX8_fills_47 (lv_at hl 0 rfl) ?_
    obtain rfl := Option.some.inj h
    exact lb_iret X hW dX8_fills_49
  · have h := (if_neg c17).symm.trans h
    refine lv_aload_n hx hb dX8_fills_20 rfl (lv_at hl 1 rfl) ?_
    refine lv_iload_n hx hb dX8_fills_21 rfl (lv_at hl 0 rfl) ?_
    obtain ⟨q22, e22, h⟩ := lb_bind h
    refine rc_X8_55 X hW e22 ⟨⟨rfl, rfl⟩, Nat.le_of_ble_eq_true rfl, Nat.le_of_ble_eq_true rfl⟩ hl.1 (Nat.le_of_ble_eq_true rfl) dX8_fills_22 ⟨Nat.zero_le _, Nat.zero_le _⟩ (fun H locs hW => ?_)
    obtain rfl := Option.some.inj h
    exact lb_iret X hW dX8_fills_25
abbrev rmX8_first_ : Room := { frames := 1, cells := 0, slots := 0, locals := 21 }
def f_X8_first_ (x0 : Int32) (x1 : Int32) (x2 : Int32) : Int32 := (f_X8_first (f_X8_first x0 x1) x2)
set_option maxRecDepth 20000 in
set_option maxHeartbeats 4000000 in
theorem m_X8_first_ (l : Launch) (G : lb_G) (σ : lb_Mem) (x0 : Int32) (x1 : Int32) (x2 : Int32) (qr : Int32) (h : f_X8_first_ x0 x1 x2 = qr) : lb_M l yX8_first_ cX8_first_ 3 (some .int) rmX8_first_ [.int x0, .int x1, .int x2] G σ (lb_QI G qr σ) := by
  refine lb_start RX8 (by decide +kernel) rfl (Nat.le_of_ble_eq_true rfl) (fun p e s m below meth c X hW ls hl => ?_)
  have hx := X.1
  have hb := X.2.1
  have hl : lv_has ls 3 [(0, .int x0), (1, .int x1), (2, .int x2)] := hl
  have h : ((f_X8_first (f_X8_first x0 x1) x2)) = qr := h
  skip
  refine lv_iload_n hx hb dX8_first__0 rfl (lv_at hl 0 rfl) ?_
  refine lv_iload_n hx hb dX8_first__1 rfl (lv_at hl 1 rfl) ?_
  refine rc_X8_51 X hW x0 x1 ⟨⟨rfl, rfl⟩, Nat.le_of_ble_eq_true rfl, Nat.le_of_ble_eq_true rfl⟩ hl.1 (Nat.le_of_ble_eq_true rfl) dX8_first__2 ⟨Nat.zero_le _, Nat.zero_le _⟩ (fun H locs hW => ?_)
  refine lv_iload_n hx hb dX8_first__5 rfl (lv_at hl 2 rfl) ?_
  refine rc_X8_51 X hW (f_X8_first x0 x1) x2 ⟨⟨rfl, rfl⟩, Nat.le_of_ble_eq_true rfl, Nat.le_of_ble_eq_true rfl⟩ hl.1 (Nat.le_of_ble_eq_true rfl) dX8_first__6 ⟨Nat.zero_le _, Nat.zero_le _⟩ (fun H locs hW => ?_)
  subst h
  exact lb_iret X hW dX8_first__9
theorem rc_X8_135 {p : Program} {l : Launch} {e : Env} {R : Room} {s : State} {m : MethodId} {args : Array Value} {below : List Frame} {meth : Method} {c : Code} {H : Heap} {locs : List Loc} {cells slots : Nat} {Q : State → Prop} {cc : ByteArray} {pc nL : Nat} {ls : Array Slot} {rest : List Value} {G : lb_G} {σ : lb_Mem} {ret : Option FieldType} (X : lb_C G p s m args meth c cc nL RX8 ret) (hW : lb_W G s σ H locs) (x0 : Int32) (x1 : Int32) (x2 : Int32) (hR : lb_room rmX8_first_ R 3) (hls : ls.size = nL) (hrest : (rest.map fun v => v.category).sum ≤ 8) (d : decode cc pc = .ok (.invokestatic 135, 3)) (hcap : cells ≤ R.cells ∧ slots ≤ R.slots) (kk : ∀ (H1 : Heap) (locs1 : List Loc), lb_W G s σ H1 locs1 → W p l e R s m args below meth c H1 locs1 cells slots Q (F0 m (pc + 3) ls (.int (f_X8_first_ x0 x1 x2) :: rest))) : W p l e R s m args below meth c H locs cells slots Q (F0 m pc ls (.int x2 :: .int x1 :: .int x0 :: rest)) :=
  lb_goI hW (lb_runS (As := [.int x0, .int x1, .int x2]) X hW (m_X8_first_ l G σ x0 x1 x2 _ rfl) (n := 3) ⟨qw_514, qw_43, qw_516, by decide +kernel⟩ hR qw_515 rfl hls hrest d hcap) kk
abbrev rmX8_turn : Room := { frames := 2, cells := 0, slots := 0, locals := 43 }
def f_X8_turn (x1 : Int32) (x2 : Int32) (x3 : Int32) (σ : lb_Mem) : Option (Int32 × lb_Mem) := lb_let ((f_X8_first_ (f_X8_potThere σ x1) (f_X8_known x2 (5 : Int32)) (f_X8_within x3 (0 : Int32) (9 : Int32)))) (fun v20 : Int32 => if v20 = 0 then lb_chk (lb_ix x1 8) (lb_chk (lb_ix x1 8) (lb_let ((((10 : Int32) * (σ 9 x1.toNatClampNeg)) + (σ 10 x1.toNatClampNeg))) (fun v56 : Int32 => lb_chk (lb_ix x1 8) (lb_let (lb_sto σ 9 x1.toNatClampNeg x2) (fun s67 : lb_Mem => lb_chk (lb_ix x1 8) (lb_let (lb_sto s67 10 x1.toNatClampNeg x3) (fun s77 : lb_Mem => some (v56, s77)))))))) else (f_X8_refuse v20 σ).bind (fun q30 => some (q30.1, q30.2)))
set_option maxRecDepth 20000 in
set_option maxHeartbeats 4000000 in
theorem m_X8_turn (l : Launch) (G : lb_G) (σ : lb_Mem) (x1 : Int32) (x2 : Int32) (x3 : Int32) (qr : (Int32 × lb_Mem)) (h : f_X8_turn x1 x2 x3 σ = some qr) : lb_M l yX8_turn cX8_turn 6 (some .int) rmX8_turn [.ref (lb_ad G 0), .int x1, .int x2, .int x3] G σ (lb_QI G qr.1 qr.2) := by
  refine lb_start RX8 (by decide +kernel) rfl (Nat.le_of_ble_eq_true rfl) (fun p e s m below meth c X hW ls hl => ?_)
  have hx := X.1
  have hb := X.2.1
  have hl : lv_has ls 6 [(0, .ref (lb_ad G 0)), (1, .int x1), (2, .int x2), (3, .int x3)] := hl
  have h : (lb_let ((f_X8_first_ (f_X8_potThere σ x1) (f_X8_known x2 (5 : Int32)) (f_X8_within x3 (0 : Int32) (9 : Int32)))) (fun v20 : Int32 => if v20 = 0 then lb_chk (lb_ix x1 8) (lb_chk (lb_ix x1 8) (lb_let ((((10 : Int32) * (σ 9 x1.toNatClampNeg)) + (σ 10 x1.toNatClampNeg))) (fun v56 : Int32 => lb_chk (lb_ix x1 8) (lb_let (lb_sto σ 9 x1.toNatClampNeg x2) (fun s67 : lb_Mem => lb_chk (lb_ix x1 8) (lb_let (lb_sto s67 10 x1.toNatClampNeg x3) (fun s77 : lb_Mem => some (v56, s77)))))))) else (f_X8_refuse v20 σ).bind (fun q30 => some (q30.1, q30.2)))) = some qr := h
  skip
  refine lv_aload_n hx hb dX8_turn_0 rfl (lv_at hl 0 rfl) ?_
  refine lv_iload_n hx hb dX8_turn_1 rfl (lv_at hl 1 rfl) ?_
  refine rc_X8_83 X hW x1 ⟨⟨rfl, rfl⟩, Nat.le_of_ble_eq_true rfl, Nat.le_of_ble_eq_true rfl⟩ hl.1 (Nat.le_of_ble_eq_true rfl) dX8_turn_2 ⟨Nat.zero_le _, Nat.zero_le _⟩ (fun H locs hW => ?_)
  refine lv_iload_n hx hb dX8_turn_5 rfl (lv_at hl 2 rfl) ?_
  refine lv_iconst (v := 5) hx hb dX8_turn_6 rfl ?_
  refine rc_X8_86 X hW x2 (5 : Int32) ⟨⟨rfl, rfl⟩, Nat.le_of_ble_eq_true rfl, Nat.le_of_ble_eq_true rfl⟩ hl.1 (Nat.le_of_ble_eq_true rfl) dX8_turn_7 ⟨Nat.zero_le _, Nat.zero_le _⟩ (fun H locs hW => ?_)
  refine lv_iload_n hx hb dX8_turn_10 rfl (lv_at hl 3 rfl) ?_
  refine lv_iconst (v := 0) hx hb dX8_turn_11 rfl ?_
  refine lv_bipush (v := 9) hx hb dX8_turn_12 rfl ?_
  refine rc_X8_44 X hW x3 (0 : Int32) (9 : Int32) ⟨⟨rfl, rfl⟩, Nat.le_of_ble_eq_true rfl, Nat.le_of_ble_eq_true rfl⟩ hl.1 (Nat.le_of_ble_eq_true rfl) dX8_turn_14 ⟨Nat.zero_le _, Nat.zero_le _⟩ (fun H locs hW => ?_)
  refine rc_X8_135 X hW (f_X8_potThere σ x1) (f_X8_known x2 (5 : Int32)) (f_X8_within x3 (0 : Int32) (9 : Int32)) ⟨⟨rfl, rfl⟩, Nat.le_of_ble_eq_true rfl, Nat.le_of_ble_eq_true rfl⟩ hl.1 (Nat.le_of_ble_eq_true rfl) dX8_turn_17 ⟨Nat.zero_le _, Nat.zero_le _⟩ (fun H locs hW => ?_)
  refine lv_topi (fun v20 e20 => ?_)
  have h := lb_letI e20 h
  refine lv_istore (lv' := [(4, .int v20), (0, .ref (lb_ad G 0)), (1, .int x1), (2, .int x2), (3, .int x3)]) hx hb dX8_turn_20 hl (by decide) rfl (fun ls hl => ?_)
  refine lv_iload hx hb dX8_turn_22 (lv_at hl 0 rfl) ?_
  refine lv_if_eq (tgt := 34) hx hb dX8_turn_24 (by decide) (fun c24 => ?_) (fun c24 => ?_)
  · have h := (if_pos c24).symm.trans h
    refine lv_bipush (v := 10) hx hb dX8_turn_34 rfl ?_
    refine lv_aload_n hx hb dX8_turn_36 rfl (lv_at hl 1 rfl) ?_
    refine rg_X8_10 X hW dX8_turn_37 ?_
    refine rg_X8_89 (k := 9) X hW lb_V1 rfl dX8_turn_40 ?_
    refine lv_iload_n hx hb dX8_turn_43 rfl (lv_at hl 2 rfl) ?_
    obtain ⟨i44, h⟩ := lb_chk_in h
    refine lb_ild X hW (show lb_ar 9 = 7 + 1 from rfl) i44 dX8_turn_44 ?_
    refine lv_imul hx hb dX8_turn_45 ?_
    refine lv_aload_n hx hb dX8_turn_46 rfl (lv_at hl 1 rfl) ?_
    refine rg_X8_10 X hW dX8_turn_47 ?_
    refine rg_X8_92 (k := 10) X hW lb_V1 rfl dX8_turn_50 ?_
    refine lv_iload_n hx hb dX8_turn_53 rfl (lv_at hl 2 rfl) ?_
    obtain ⟨i54, h⟩ := lb_chk_in h
    refine lb_ild X hW (show lb_ar 10 = 7 + 1 from rfl) i54 dX8_turn_54 ?_
    refine lv_iadd hx hb dX8_turn_55 ?_
    refine lv_topi (fun v56 e56 => ?_)
    have h := lb_letI e56 h
    refine lv_istore (lv' := [(5, .int v56), (4, .int v20), (0, .ref (lb_ad G 0)), (1, .int x1), (2, .int x2), (3, .int x3)]) hx hb dX8_turn_56 hl (by decide) rfl (fun ls hl => ?_)
    refine lv_aload_n hx hb dX8_turn_58 rfl (lv_at hl 2 rfl) ?_
    refine rg_X8_10 X hW dX8_turn_59 ?_
    refine rg_X8_89 (k := 9) X hW lb_V1 rfl dX8_turn_62 ?_
    refine lv_iload_n hx hb dX8_turn_65 rfl (lv_at hl 3 rfl) ?_
    refine lv_iload_n hx hb dX8_turn_66 rfl (lv_at hl 4 rfl) ?_
    obtain ⟨i67, h⟩ := lb_chk_in h
    refine lb_ist X hW (show lb_ar 9 = 7 + 1 from rfl) i67 dX8_turn_67 (fun H locs hW => ?_)
    obtain ⟨s67, e67⟩ : ∃ z, z = lb_sto σ 9 x1.toNatClampNeg x2 := ⟨_, rfl⟩
    rw [← e67] at hW
    have h := lb_letI e67 h
    refine lv_aload_n hx hb dX8_turn_68 rfl (lv_at hl 2 rfl) ?_
    refine rg_X8_10 X hW dX8_turn_69 ?_
    refine rg_X8_92 (k := 10) X hW lb_V1 rfl dX8_turn_72 ?_
    refine lv_iload_n hx hb dX8_turn_75 rfl (lv_at hl 3 rfl) ?_
    refine lv_iload_n hx hb dX8_turn_76 rfl (lv_at hl 5 rfl) ?_
    obtain ⟨i77, h⟩ := lb_chk_in h
    refine lb_ist X hW (show lb_ar 10 = 7 + 1 from rfl) i77 dX8_turn_77 (fun H locs hW => ?_)
    obtain ⟨s77, e77⟩ : ∃ z, z = lb_sto s67 10 x1.toNatClampNeg x3 := ⟨_, rfl⟩
    rw [← e77] at hW
    have h := lb_letI e77 h
    refine lv_iload hx hb dX8_turn_78 (lv_at hl 0 rfl) ?_
    obtain rfl := Option.some.inj h
    exact lb_iret X hW dX8_turn_80
  · have h := (if_neg c24).symm.trans h
    refine lv_aload_n hx hb dX8_turn_27 rfl (lv_at hl 1 rfl) ?_
    refine lv_iload hx hb dX8_turn_28 (lv_at hl 0 rfl) ?_
    obtain ⟨q30, e30, h⟩ := lb_bind h
    refine rc_X8_55 X hW e30 ⟨⟨rfl, rfl⟩, Nat.le_of_ble_eq_true rfl, Nat.le_of_ble_eq_true rfl⟩ hl.1 (Nat.le_of_ble_eq_true rfl) dX8_turn_30 ⟨Nat.zero_le _, Nat.zero_le _⟩ (fun H locs hW => ?_)
    obtain rfl := Option.some.inj h
    exact lb_iret X hW dX8_turn_33
