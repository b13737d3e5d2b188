theorem rc_X9_109 {p : Program} {l : Launch} {e : Env} {R : Room} {s : State} {m : MethodId} {args : Array Value} {below : List Frame} {meth : Method} {c : Code} {H : Heap} {locs : List Loc} {cells slots : Nat} {Q : State → Prop} {cc : ByteArray} {pc nL : Nat} {ls : Array Slot} {rest : List Value} {G : lb_G} {σ : lb_Mem} {ret : Option FieldType} (X : lb_C G p s m args meth c cc nL RX9 ret) (hW : lb_W G s σ H locs) {qr : (Int32 × lb_Mem)} (h : f_X9_readsStatement σ = some qr) (hR : lb_room rmX9_readsStatement R 3) (hls : ls.size = nL) (hrest : (rest.map fun v => v.category).sum ≤ 8) (d : decode cc pc = .ok (.invokevirtual 109, 3)) (hcap : cells ≤ R.cells ∧ slots ≤ R.slots) (kk : ∀ (H1 : Heap) (locs1 : List Loc), lb_W G s qr.2 H1 locs1 → W p l e R s m args below meth c H1 locs1 cells slots Q (F0 m (pc + 3) ls (.int qr.1 :: rest))) : W p l e R s m args below meth c H locs cells slots Q (F0 m pc ls (.ref (lb_ad G 53) :: rest)) :=
  lb_goI hW (lb_runV (As := []) X hW (m_X9_readsStatement l G σ qr h) (n := 0) ⟨qw_818, qw_52, qw_821, by decide +kernel⟩ hR qw_820 qw_18 lb_is53 rfl hls hrest d hcap) kk
theorem rc_X9_112 {p : Program} {l : Launch} {e : Env} {R : Room} {s : State} {m : MethodId} {args : Array Value} {below : List Frame} {meth : Method} {c : Code} {H : Heap} {locs : List Loc} {cells slots : Nat} {Q : State → Prop} {cc : ByteArray} {pc nL : Nat} {ls : Array Slot} {rest : List Value} {G : lb_G} {σ : lb_Mem} {ret : Option FieldType} (X : lb_C G p s m args meth c cc nL RX9 ret) (hW : lb_W G s σ H locs) {k0 : Nat} (hk0 : lb_ar k0 = 60 + 1) {k1 : Nat} (hk1 : lb_ar k1 = 60 + 1) {qr : lb_Mem} (h : f_X9_copies k0 k1 σ = some qr) (hR : lb_room rmX9_copies R 3) (hls : ls.size = nL) (hrest : (rest.map fun v => v.category).sum ≤ 8) (d : decode cc pc = .ok (.invokestatic 112, 3)) (hcap : cells ≤ R.cells ∧ slots ≤ R.slots) (kk : ∀ (H1 : Heap) (locs1 : List Loc), lb_W G s qr H1 locs1 → W p l e R s m args below meth c H1 locs1 cells slots Q (F0 m (pc + 3) ls rest)) : W p l e R s m args below meth c H locs cells slots Q (F0 m pc ls (.ref (lb_ad G k1) :: .ref (lb_ad G k0) :: rest)) :=
  lb_goV hW (lb_runS (As := [.ref (lb_ad G k0), .ref (lb_ad G k1)]) X hW (m_X9_copies l G σ hk0 hk1 qr h) (n := 2) ⟨qw_840, qw_52, qw_842, by decide +kernel⟩ hR qw_841 rfl hls hrest d hcap) kk
theorem rc_X9_116 {p : Program} {l : Launch} {e : Env} {R : Room} {s : State} {m : MethodId} {args : Array Value} {below : List Frame} {meth : Method} {c : Code} {H : Heap} {locs : List Loc} {cells slots : Nat} {Q : State → Prop} {cc : ByteArray} {pc nL : Nat} {ls : Array Slot} {rest : List Value} {G : lb_G} {σ : lb_Mem} {ret : Option FieldType} (X : lb_C G p s m args meth c cc nL RX9 ret) (hW : lb_W G s σ H locs) {x1 : Int32} {qr : (Int32 × lb_Mem)} (h : f_X9_isDone x1 σ = some qr) (hR : lb_room rmX9_isDone R 4) (hls : ls.size = nL) (hrest : (rest.map fun v => v.category).sum ≤ 8) (d : decode cc pc = .ok (.invokevirtual 116, 3)) (hcap : cells ≤ R.cells ∧ slots ≤ R.slots) (kk : ∀ (H1 : Heap) (locs1 : List Loc), lb_W G s qr.2 H1 locs1 → W p l e R s m args below meth c H1 locs1 cells slots Q (F0 m (pc + 3) ls (.int qr.1 :: rest))) : W p l e R s m args below meth c H locs cells slots Q (F0 m pc ls (.int x1 :: .ref (lb_ad G 53) :: rest)) :=
  lb_goI hW (lb_runV (As := [.int x1]) X hW (m_X9_isDone l G σ x1 qr h) (n := 1) ⟨qw_843, qw_52, qw_846, by decide +kernel⟩ hR qw_845 qw_22 lb_is53 rfl hls hrest d hcap) kk
abbrev rmX9_village : Room := { frames := 6, cells := 0, slots := 0, locals := 134 }
def f_X9_village_128 (x1 : Int32) (x2 : Int32) (σ : lb_Mem) : Option (Int32 × lb_Mem) := lb_let (lb_sto σ 53 8 (0 : Int32)) (fun s130 : lb_Mem => if x2 = (-9 : Int32) then some (x1, s130) else some (x2, s130))
set_option maxRecDepth 20000 in
set_option maxHeartbeats 4000000 in
theorem w_X9_village_128 {p : Program} {l : Launch} {e : Env} {s : State} {m : MethodId} {args : Array Value} {below : List Frame} {meth : Method} {c : Code} {G : lb_G} {qr : (Int32 × lb_Mem)} (X : lb_C G p s m args meth c cX9_village 6 RX9 (some .int)) : ∀ (x1 : Int32) (x2 : Int32) (σ : lb_Mem) (H : Heap) (locs : List Loc) (ls : Array Slot), f_X9_village_128 x1 x2 σ = some qr → lb_W G s σ H locs → lv_has ls 6 [(0, .ref (lb_ad G 53)), (1, .int x1), (2, .int x2)] → W p l e rmX9_village s m args below meth c H locs 0 0 (MQ below (lb_QI G qr.1 qr.2) args s 0 0 (lb_A G)) (F0 m 128 ls []) := by
  have hx := X.1
  have hb := X.2.1
  intro x1 x2 σ H locs ls h hW hl
  have h : (lb_let (lb_sto σ 53 8 (0 : Int32)) (fun s130 : lb_Mem => if x2 = (-9 : Int32) then some (x1, s130) else some (x2, s130))) = some qr := h
  refine lv_aload_n hx hb dX9_village_128 rfl (lv_at hl 0 rfl) ?_
  refine lv_iconst (v := 0) hx hb dX9_village_129 rfl ?_
  refine rp_X9_73 X hW dX9_village_130 (fun H locs hW => ?_)
  obtain ⟨s130, e130⟩ : ∃ z, z = lb_sto σ 53 8 (0 : Int32) := ⟨_, rfl⟩
  rw [← e130] at hW
  have h := lb_letI e130 h
  refine lv_iload_n hx hb dX9_village_133 rfl (lv_at hl 2 rfl) ?_
  refine lv_bipush (v := -9) hx hb dX9_village_134 rfl ?_
  refine lv_icmp_ne (tgt := 143) hx hb dX9_village_136 (by decide) (fun c136 => ?_) (fun c136 => ?_)
  · have h := (if_neg c136).symm.trans h
    refine lv_iload_n hx hb dX9_village_143 rfl (lv_at hl 2 rfl) ?_
    obtain rfl := Option.some.inj h
    exact lb_iret X hW dX9_village_144
  · have h := (if_pos c136).symm.trans h
    refine lv_iload_n hx hb dX9_village_139 rfl (lv_at hl 1 rfl) ?_
    refine lv_goto (tgt := 144) hx hb dX9_village_140 (by decide) ?_
    obtain rfl := Option.some.inj h
    exact lb_iret X hW dX9_village_144
def f_X9_village_62 : Nat → Int32 → Int32 → lb_Mem → Option (Int32 × lb_Mem)
  | 0, _, _, _ => none
  | n + 1, x1, x2, σ => if x2 = (-9 : Int32) then if (σ 53 8) ≤ (σ 53 10) then f_X9_village_128 x1 x2 σ else lb_let ((σ 53 10)) (fun v83 : Int32 => (f_X9_here σ).bind (fun q85 => (f_X9_readsStatement σ).bind (fun q91 => (f_X9_isDone q85 q91.2).bind (fun q99 => if q99.1 = 0 then lb_let (((-2000 : Int32) - v83)) (fun v113 : Int32 => (f_X9_copies 57 54 q99.2).bind (fun s122 => f_X9_village_62 n x1 v113 s122)) else f_X9_village_62 n x1 x2 q99.2)))) else f_X9_village_128 x1 x2 σ
set_option maxRecDepth 20000 in
set_option maxHeartbeats 4000000 in
theorem w_X9_village_62 {p : Program} {l : Launch} {e : Env} {s : State} {m : MethodId} {args : Array Value} {below : List Frame} {meth : Method} {c : Code} {G : lb_G} {qr : (Int32 × lb_Mem)} (X : lb_C G p s m args meth c cX9_village 6 RX9 (some .int)) : ∀ (n : Nat) (x1 : Int32) (x2 : Int32) (σ : lb_Mem) (H : Heap) (locs : List Loc) (ls : Array Slot), f_X9_village_62 n x1 x2 σ = some qr → lb_W G s σ H locs → lv_has ls 6 [(0, .ref (lb_ad G 53)), (1, .int x1), (2, .int x2)] → W p l e rmX9_village s m args below meth c H locs 0 0 (MQ below (lb_QI G qr.1 qr.2) args s 0 0 (lb_A G)) (F0 m 62 ls []) := by
  have hx := X.1
  have hb := X.2.1
  intro n
  induction n with
  | zero => intro x1 x2 σ H locs ls h hW hl; exact absurd h (fun z => by cases z)
  | succ n ih =>
    intro x1 x2 σ H locs ls h hW hl
    have h : (if x2 = (-9 : Int32) then if (σ 53 8) ≤ (σ 53 10) then f_X9_village_128 x1 x2 σ else lb_let ((σ 53 10)) (fun v83 : Int32 => (f_X9_here σ).bind (fun q85 => (f_X9_readsStatement σ).bind (fun q91 => (f_X9_isDone q85 q91.2).bind (fun q99 => if q99.1 = 0 then lb_let (((-2000 : Int32) - v83)) (fun v113 : Int32 => (f_X9_copies 57 54 q99.2).bind (fun s122 => f_X9_village_62 n x1 v113 s122)) else f_X9_village_62 n x1 x2 q99.2)))) else f_X9_village_128 x1 x2 σ) = some qr := h
    refine lv_iload_n hx hb dX9_village_62 rfl (lv_at hl 2 rfl) ?_
    refine lv_bipush (v := -9) hx hb dX9_village_63 rfl ?_
    refine lv_icmp_ne (tgt := 128) hx hb dX9_village_65 (by decide) (fun c65 => ?_) (fun c65 => ?_)
    · have h := (if_neg c65).symm.trans h
      exact w_X9_village_128 X x1 x2 σ _ _ _ h hW (lv_sub hl [0, 1, 2] rfl)
    · have h := (if_pos c65).symm.trans h
      refine lv_aload_n hx hb dX9_village_68 rfl (lv_at hl 0 rfl) ?_
      refine rg_X9_77 X hW dX9_village_69 ?_
      refine lv_aload_n hx hb dX9_village_72 rfl (lv_at hl 0 rfl) ?_
      refine rg_X9_73 X hW dX9_village_73 ?_
      refine lv_icmp_ge (tgt := 128) hx hb dX9_village_76 (by decide) (fun c76 => ?_) (fun c76 => ?_)
      · have h := (if_pos c76).symm.trans h
        exact w_X9_village_128 X x1 x2 σ _ _ _ h hW (lv_sub hl [0, 1, 2] rfl)
      · have h := (if_neg c76).symm.trans h
        refine lv_aload_n hx hb dX9_village_79 rfl (lv_at hl 0 rfl) ?_
        refine rg_X9_77 X hW dX9_village_80 ?_
        refine lv_topi (fun v83 e83 => ?_)
        have h := lb_letI e83 h
        refine lv_istore_n (lv' := [(3, .int v83), (0, .ref (lb_ad G 53)), (1, .int x1), (2, .int x2)]) hx hb dX9_village_83 rfl hl (by decide) rfl (fun ls hl => ?_)
        refine lv_aload_n hx hb dX9_village_84 rfl (lv_at hl 1 rfl) ?_
        obtain ⟨q85, e85, h⟩ := lb_bind h
        refine rc_X9_80 X hW e85 ⟨⟨rfl, rfl⟩, Nat.le_of_ble_eq_true rfl, Nat.le_of_ble_eq_true rfl⟩ hl.1 (Nat.le_of_ble_eq_true rfl) dX9_village_85 ⟨Nat.zero_le _, Nat.zero_le _⟩ (fun H locs hW => ?_)
        refine lv_istore (lv' := [(4, .int q85), (3, .int v83), (0, .ref (lb_ad G 53)), (1, .int x1), (2, .int x2)]) hx hb dX9_village_88 hl (by decide) rfl (fun ls hl => ?_)
        refine lv_aload_n hx hb dX9_village_90 rfl (lv_at hl 2 rfl) ?_
        obtain ⟨q91, e91, h⟩ := lb_bind h
        refine rc_X9_109 X hW e91 ⟨⟨rfl, rfl⟩, Nat.le_of_ble_eq_true rfl, Nat.le_of_ble_eq_true rfl⟩ hl.1 (Nat.le_of_ble_eq_true rfl) dX9_village_91 ⟨Nat.zero_le _, Nat.zero_le _⟩ (fun H locs hW => ?_)
        refine lv_istore (lv' := [(5, .int q91.1), (4, .int q85), (3, .int v83), (0, .ref (lb_ad G 53)), (1, .int x1), (2, .int x2)]) hx hb dX9_village_94 hl (by decide) rfl (fun ls hl => ?_)
        refine lv_aload_n hx hb dX9_village_96 rfl (lv_at hl 3 rfl) ?_
        refine lv_iload hx hb dX9_village_97 (lv_at hl 1 rfl) ?_
        obtain ⟨q99, e99, h⟩ := lb_bind h
        refine rc_X9_116 X hW e99 ⟨⟨rfl, rfl⟩, Nat.le_of_ble_eq_true rfl, Nat.le_of_ble_eq_true rfl⟩ hl.1 (Nat.le_of_ble_eq_true rfl) dX9_village_99 ⟨Nat.zero_le _, Nat.zero_le _⟩ (fun H locs hW => ?_)
        refine lv_if_eq (tgt := 108) hx hb dX9_village_102 (by decide) (fun c102 => ?_) (fun c102 => ?_)
        · have h := (if_pos c102).symm.trans h
          refine lv_sipush (v := -2000) hx hb dX9_village_108 rfl ?_
          refine lv_iload_n hx hb dX9_village_111 rfl (lv_at hl 2 rfl) ?_
          refine lv_isub hx hb dX9_village_112 ?_
          refine lv_topi (fun v113 e113 => ?_)
          have h := lb_letI e113 h
          refine lv_istore_n (lv' := [(2, .int v113), (5, .int q91.1), (4, .int q85), (3, .int v83), (0, .ref (lb_ad G 53)), (1, .int x1)]) hx hb dX9_village_113 rfl hl (by decide) rfl (fun ls hl => ?_)
          refine lv_aload_n hx hb dX9_village_114 rfl (lv_at hl 4 rfl) ?_
          refine rg_X9_19 X hW dX9_village_115 ?_
          refine lv_aload_n hx hb dX9_village_118 rfl (lv_at hl 4 rfl) ?_
          refine rg_X9_9 X hW dX9_village_119 ?_
          obtain ⟨s122, e122, h⟩ := lb_bind h
          refine rc_X9_112 X hW (show lb_ar 57 = 60 + 1 from rfl) (show lb_ar 54 = 60 + 1 from rfl) e122 ⟨⟨rfl, rfl⟩, Nat.le_of_ble_eq_true rfl, Nat.le_of_ble_eq_true rfl⟩ hl.1 (Nat.le_of_ble_eq_true rfl) dX9_village_122 ⟨Nat.zero_le _, Nat.zero_le _⟩ (fun H locs hW => ?_)
          refine lv_goto (tgt := 62) hx hb dX9_village_125 (by decide) ?_
          exact ih x1 v113 s122 _ _ _ h hW (lv_sub hl [4, 5, 0] rfl)
        · have h := (if_neg c102).symm.trans h
          refine lv_goto (tgt := 62) hx hb dX9_village_105 (by decide) ?_
          exact ih x1 x2 q99.2 _ _ _ h hW (lv_sub hl [3, 4, 5] rfl)
def f_X9_village_46 (x1 : Int32) (x2 : Int32) (σ : lb_Mem) : Option (Int32 × lb_Mem) := (f_X9_copies 54 57 σ).bind (fun s54 => lb_let (lb_sto s54 53 10 (0 : Int32)) (fun s59 : lb_Mem => f_X9_village_62 lb_N x1 x2 s59))
set_option maxRecDepth 20000 in
set_option maxHeartbeats 4000000 in
theorem w_X9_village_46 {p : Program} {l : Launch} {e : Env} {s : State} {m : MethodId} {args : Array Value} {below : List Frame} {meth : Method} {c : Code} {G : lb_G} {qr : (Int32 × lb_Mem)} (X : lb_C G p s m args meth c cX9_village 6 RX9 (some .int)) : ∀ (x1 : Int32) (x2 : Int32) (σ : lb_Mem) (H : Heap) (locs : List Loc) (ls : Array Slot), f_X9_village_46 x1 x2 σ = some qr → lb_W G s σ H locs → lv_has ls 6 [(0, .ref (lb_ad G 53)), (1, .int x1), (2, .int x2)] → W p l e rmX9_village s m args below meth c H locs 0 0 (MQ below (lb_QI G qr.1 qr.2) args s 0 0 (lb_A G)) (F0 m 46 ls []) := by
  have hx := X.1
  have hb := X.2.1
  intro x1 x2 σ H locs ls h hW hl
  have h : ((f_X9_copies 54 57 σ).bind (fun s54 => lb_let (lb_sto s54 53 10 (0 : Int32)) (fun s59 : lb_Mem => f_X9_village_62 lb_N x1 x2 s59))) = some qr := h
  refine lv_aload_n hx hb dX9_village_46 rfl (lv_at hl 0 rfl) ?_
  refine rg_X9_9 X hW dX9_village_47 ?_
  refine lv_aload_n hx hb dX9_village_50 rfl (lv_at hl 0 rfl) ?_
  refine rg_X9_19 X hW dX9_village_51 ?_
  obtain ⟨s54, e54, h⟩ := lb_bind h
  refine rc_X9_112 X hW (show lb_ar 54 = 60 + 1 from rfl) (show lb_ar 57 = 60 + 1 from rfl) e54 ⟨⟨rfl, rfl⟩, Nat.le_of_ble_eq_true rfl, Nat.le_of_ble_eq_true rfl⟩ hl.1 (Nat.le_of_ble_eq_true rfl) dX9_village_54 ⟨Nat.zero_le _, Nat.zero_le _⟩ (fun H locs hW => ?_)
  refine lv_aload_n hx hb dX9_village_57 rfl (lv_at hl 0 rfl) ?_
  refine lv_iconst (v := 0) hx hb dX9_village_58 rfl ?_
  refine rp_X9_77 X hW dX9_village_59 (fun H locs hW => ?_)
  obtain ⟨s59, e59⟩ : ∃ z, z = lb_sto s54 53 10 (0 : Int32) := ⟨_, rfl⟩
  rw [← e59] at hW
  have h := lb_letI e59 h
  exact w_X9_village_62 X lb_N x1 x2 s59 _ _ _ h hW (lv_sub hl [0, 1, 2] rfl)
def f_X9_village_26 (kc10 : Int32 → Int32 → lb_Mem → Option (Int32 × lb_Mem)) (x1 : Int32) (x2 : Int32) (σ : lb_Mem) : Option (Int32 × lb_Mem) := if x2 = (-9 : Int32) then if (σ 53 10) < (σ 53 8) then kc10 (x1 + 1) x2 σ else f_X9_village_46 (x1 + 1) x2 σ else f_X9_village_46 (x1 + 1) x2 σ
set_option maxRecDepth 20000 in
set_option maxHeartbeats 4000000 in
theorem w_X9_village_26 {p : Program} {l : Launch} {e : Env} {s : State} {m : MethodId} {args : Array Value} {below : List Frame} {meth : Method} {c : Code} {G : lb_G} {qr : (Int32 × lb_Mem)} (X : lb_C G p s m args meth c cX9_village 6 RX9 (some .int)) {kc10 : Int32 → Int32 → lb_Mem → Option (Int32 × lb_Mem)} (hc10 : ∀ (x1 : Int32) (x2 : Int32) (σ : lb_Mem) (H : Heap) (locs : List Loc) (ls : Array Slot), kc10 x1 x2 σ = some qr → lb_W G s σ H locs → lv_has ls 6 [(0, .ref (lb_ad G 53)), (1, .int x1), (2, .int x2)] → W p l e rmX9_village s m args below meth c H locs 0 0 (MQ below (lb_QI G qr.1 qr.2) args s 0 0 (lb_A G)) (F0 m 10 ls [])) : ∀ (x1 : Int32) (x2 : Int32) (σ : lb_Mem) (H : Heap) (locs : List Loc) (ls : Array Slot), f_X9_village_26 kc10 x1 x2 σ = some qr → lb_W G s σ H locs → lv_has ls 6 [(0, .ref (lb_ad G 53)), (1, .int x1), (2, .int x2)] → W p l e rmX9_village s m args below meth c H locs 0 0 (MQ below (lb_QI G qr.1 qr.2) args s 0 0 (lb_A G)) (F0 m 26 ls []) := by
  have hx := X.1
  have hb := X.2.1
  intro x1 x2 σ H locs ls h hW hl
  have h : (if x2 = (-9 : Int32) then if (σ 53 10) < (σ 53 8) then kc10 (x1 + 1) x2 σ else f_X9_village_46 (x1 + 1) x2 σ else f_X9_village_46 (x1 + 1) x2 σ) = some qr := h
  refine lv_iinc (v := (x1 + 1)) (lv' := [(1, .int (x1 + 1)), (0, .ref (lb_ad G 53)), (2, .int x2)]) hx hb dX9_village_26 hl (k := 1) rfl rfl (by decide) rfl (fun ls hl => ?_)
  refine lv_iload_n hx hb dX9_village_29 rfl (lv_at hl 2 rfl) ?_
  refine lv_bipush (v := -9) hx hb dX9_village_30 rfl ?_
  refine lv_icmp_ne (tgt := 46) hx hb dX9_village_32 (by decide) (fun c32 => ?_) (fun c32 => ?_)
  · have h := (if_neg c32).symm.trans h
    exact w_X9_village_46 X (x1 + 1) x2 σ _ _ _ h hW (lv_sub hl [1, 0, 2] rfl)
  · have h := (if_pos c32).symm.trans h
    refine lv_aload_n hx hb dX9_village_35 rfl (lv_at hl 1 rfl) ?_
    refine rg_X9_77 X hW dX9_village_36 ?_
    refine lv_aload_n hx hb dX9_village_39 rfl (lv_at hl 1 rfl) ?_
    refine rg_X9_73 X hW dX9_village_40 ?_
    refine lv_icmp_lt (tgt := 10) hx hb dX9_village_43 (by decide) (fun c43 => ?_) (fun c43 => ?_)
    · have h := (if_pos c43).symm.trans h
      exact hc10 (x1 + 1) x2 σ _ _ _ h hW (lv_sub hl [1, 0, 2] rfl)
    · have h := (if_neg c43).symm.trans h
      exact w_X9_village_46 X (x1 + 1) x2 σ _ _ _ h hW (lv_sub hl [1, 0, 2] rfl)
def f_X9_village_10 : Nat → Int32 → Int32 → lb_Mem → Option (Int32 × lb_Mem)
  | 0, _, _, _ => none
  | n + 1, x1, x2, σ => (f_X9_readsStatement σ).bind (fun q11 => if q11.1 = 0 then lb_let (((-1000 : Int32) - (q11.2 53 10))) (fun v25 : Int32 => f_X9_village_26 (fun (x1 : Int32) (x2 : Int32) (σ : lb_Mem) => f_X9_village_10 n x1 x2 σ) x1 v25 q11.2) else f_X9_village_26 (fun (x1 : Int32) (x2 : Int32) (σ : lb_Mem) => f_X9_village_10 n x1 x2 σ) x1 x2 q11.2)
set_option maxRecDepth 20000 in
set_option maxHeartbeats 4000000 in
theorem w_X9_village_10 {p : Program} {l : Launch} {e : Env} {s : State} {m : MethodId} {args : Array Value} {below : List Frame} {meth : Method} {c : Code} {G : lb_G} {qr : (Int32 × lb_Mem)} (X : lb_C G p s m args meth c cX9_village 6 RX9 (some .int)) : ∀ (n : Nat) (x1 : Int32) (x2 : Int32) (σ : lb_Mem) (H : Heap) (locs : List Loc) (ls : Array Slot), f_X9_village_10 n x1 x2 σ = some qr → lb_W G s σ H locs → lv_has ls 6 [(0, .ref (lb_ad G 53)), (1, .int x1), (2, .int x2)] → W p l e rmX9_village s m args below meth c H locs 0 0 (MQ below (lb_QI G qr.1 qr.2) args s 0 0 (lb_A G)) (F0 m 10 ls []) := by
  have hx := X.1
  have hb := X.2.1
  intro n
  induction n with
  | zero => intro x1 x2 σ H locs ls h hW hl; exact absurd h (fun z => by cases z)
  | succ n ih =>
    intro x1 x2 σ H locs ls h hW hl
    have h : ((f_X9_readsStatement σ).bind (fun q11 => if q11.1 = 0 then lb_let (((-1000 : Int32) - (q11.2 53 10))) (fun v25 : Int32 => f_X9_village_26 (fun (x1 : Int32) (x2 : Int32) (σ : lb_Mem) => f_X9_village_10 n x1 x2 σ) x1 v25 q11.2) else f_X9_village_26 (fun (x1 : Int32) (x2 : Int32) (σ : lb_Mem) => f_X9_village_10 n x1 x2 σ) x1 x2 q11.2)) = some qr := h
    refine lv_aload_n hx hb dX9_village_10 rfl (lv_at hl 0 rfl) ?_
    obtain ⟨q11, e11, h⟩ := lb_bind h
    refine rc_X9_109 X hW e11 ⟨⟨rfl, rfl⟩, Nat.le_of_ble_eq_true rfl, Nat.le_of_ble_eq_true rfl⟩ hl.1 (Nat.le_of_ble_eq_true rfl) dX9_village_11 ⟨Nat.zero_le _, Nat.zero_le _⟩ (fun H locs hW => ?_)
    refine lv_if_ne (tgt := 26) hx hb dX9_village_14 (by decide) (fun c14 => ?_) (fun c14 => ?_)
    · have h := (if_neg c14).symm.trans h
      exact w_X9_village_26 X ih x1 x2 q11.2 _ _ _ h hW (lv_sub hl [0, 1, 2] rfl)
    · have h := (if_pos c14).symm.trans h
      refine lv_sipush (v := -1000) hx hb dX9_village_17 rfl ?_
      refine lv_aload_n hx hb dX9_village_20 rfl (lv_at hl 0 rfl) ?_
      refine rg_X9_77 X hW dX9_village_21 ?_
      refine lv_isub hx hb dX9_village_24 ?_
      refine lv_topi (fun v25 e25 => ?_)
      have h := lb_letI e25 h
      refine lv_istore_n (lv' := [(2, .int v25), (0, .ref (lb_ad G 53)), (1, .int x1)]) hx hb dX9_village_25 rfl hl (by decide) rfl (fun ls hl => ?_)
      exact w_X9_village_26 X ih x1 v25 q11.2 _ _ _ h hW (lv_sub hl [1, 2, 0] rfl)
def f_X9_village (σ : lb_Mem) : Option (Int32 × lb_Mem) := lb_let (lb_sto σ 53 10 (0 : Int32)) (fun s2 : lb_Mem => f_X9_village_10 lb_N (0 : Int32) (-9 : Int32) s2)
set_option maxRecDepth 20000 in
set_option maxHeartbeats 4000000 in
theorem m_X9_village (l : Launch) (G : lb_G) (σ : lb_Mem) (qr : (Int32 × lb_Mem)) (h : f_X9_village σ = some qr) : lb_M l yX9_village cX9_village 6 (some .int) rmX9_village [.ref (lb_ad G 53)] G σ (lb_QI G qr.1 qr.2) := by
  refine lb_start RX9 (by decide +kernel) rfl (Nat.le_of_ble_eq_true rfl) (fun p e s m below meth c X hW ls hl => ?_)
  have hx := X.1
  have hb := X.2.1
  have hl : lv_has ls 6 [(0, .ref (lb_ad G 53))] := hl
  have h : (lb_let (lb_sto σ 53 10 (0 : Int32)) (fun s2 : lb_Mem => f_X9_village_10 lb_N (0 : Int32) (-9 : Int32) s2)) = some qr := h
  skip
  refine lv_aload_n hx hb dX9_village_0 rfl (lv_at hl 0 rfl) ?_
  refine lv_iconst (v := 0) hx hb dX9_village_1 rfl ?_
  refine rp_X9_77 X hW dX9_village_2 (fun H locs hW => ?_)
  obtain ⟨s2, e2⟩ : ∃ z, z = lb_sto σ 53 10 (0 : Int32) := ⟨_, rfl⟩
  rw [← e2] at hW
  have h := lb_letI e2 h
  refine lv_iconst (v := 0) hx hb dX9_village_5 rfl ?_
  refine lv_istore_n (lv' := [(1, .int (0 : Int32)), (0, .ref (lb_ad G 53))]) hx hb dX9_village_6 rfl hl (by decide) rfl (fun ls hl => ?_)
  refine lv_bipush (v := -9) hx hb dX9_village_7 rfl ?_
  refine lv_istore_n (lv' := [(2, .int (-9 : Int32)), (1, .int (0 : Int32)), (0, .ref (lb_ad G 53))]) hx hb dX9_village_9 rfl hl (by decide) rfl (fun ls hl => ?_)
  exact w_X9_village_10 X lb_N (0 : Int32) (-9 : Int32) s2 _ _ _ h hW (lv_sub hl [2, 1, 0] rfl)
abbrev rmX9_pot : Room := { frames := 2, cells := 0, slots := 0, locals := 43 }
def f_X9_pot (x1 : Int32) (x2 : Int32) (σ : lb_Mem) : Option (Int32 × lb_Mem) := if (f_X9_isPot σ x1) = 0 then (f_X9_no (-1 : Int32) σ).bind (fun q10 => some (q10.1, q10.2)) else if (f_X9_isIn x2 (0 : Int32) (5 : Int32)) = 0 then (f_X9_no (-2 : Int32) σ).bind (fun q39 => some (q39.1, q39.2)) else lb_chk (lb_ix (f_X9_ofT x1 x2) 61) (some ((σ 54 (f_X9_ofT x1 x2).toNatClampNeg), σ))
set_option maxRecDepth 20000 in
set_option maxHeartbeats 4000000 in
theorem m_X9_pot (l : Launch) (G : lb_G) (σ : lb_Mem) (x1 : Int32) (x2 : Int32) (qr : (Int32 × lb_Mem)) (h : f_X9_pot x1 x2 σ = some qr) : lb_M l yX9_pot cX9_pot 3 (some .int) rmX9_pot [.ref (lb_ad G 53), .int x1, .int x2] G σ (lb_QI G qr.1 qr.2) := by
  refine lb_start RX9 (by decide +kernel) rfl (Nat.le_of_ble_eq_true rfl) (fun p e s m below meth c X hW ls hl => ?_)
  have hx := X.1
  have hb := X.2.1
  have hl : lv_has ls 3 [(0, .ref (lb_ad G 53)), (1, .int x1), (2, .int x2)] := hl
  have h : (if (f_X9_isPot σ x1) = 0 then (f_X9_no (-1 : Int32) σ).bind (fun q10 => some (q10.1, q10.2)) else if (f_X9_isIn x2 (0 : Int32) (5 : Int32)) = 0 then (f_X9_no (-2 : Int32) σ).bind (fun q39 => some (q39.1, q39.2)) else lb_chk (lb_ix (f_X9_ofT x1 x2) 61) (some ((σ 54 (f_X9_ofT x1 x2).toNatClampNeg), σ))) = some qr := h
  skip
  refine lv_aload_n hx hb dX9_pot_0 rfl (lv_at hl 0 rfl) ?_
  refine lv_iload_n hx hb dX9_pot_1 rfl (lv_at hl 1 rfl) ?_
  refine rc_X9_102 X hW x1 ⟨⟨rfl, rfl⟩, Nat.le_of_ble_eq_true rfl, Nat.le_of_ble_eq_true rfl⟩ hl.1 (Nat.le_of_ble_eq_true rfl) dX9_pot_2 ⟨Nat.zero_le _, Nat.zero_le _⟩ (fun H locs hW => ?_)
  refine lv_if_ne (tgt := 14) hx hb dX9_pot_5 (by decide) (fun c5 => ?_) (fun c5 => ?_)
  · have h := (if_neg c5).symm.trans h
    refine lv_iload_n hx hb dX9_pot_14 rfl (lv_at hl 2 rfl) ?_
    refine lv_iconst (v := 0) hx hb dX9_pot_15 rfl ?_
    refine lv_iconst (v := 5) hx hb dX9_pot_16 rfl ?_
    refine rc_X9_41 X hW x2 (0 : Int32) (5 : Int32) ⟨⟨rfl, rfl⟩, Nat.le_of_ble_eq_true rfl, Nat.le_of_ble_eq_true rfl⟩ hl.1 (Nat.le_of_ble_eq_true rfl) dX9_pot_17 ⟨Nat.zero_le _, Nat.zero_le _⟩ (fun H locs hW => ?_)
    refine lv_if_eq (tgt := 36) hx hb dX9_pot_20 (by decide) (fun c20 => ?_) (fun c20 => ?_)
    · have h := (if_pos c20).symm.trans h
      refine lv_aload_n hx hb dX9_pot_36 rfl (lv_at hl 0 rfl) ?_
      refine lv_bipush (v := -2) hx hb dX9_pot_37 rfl ?_
      obtain ⟨q39, e39, h⟩ := lb_bind h
      refine rc_X9_35 X hW e39 ⟨⟨rfl, rfl⟩, Nat.le_of_ble_eq_true rfl, Nat.le_of_ble_eq_true rfl⟩ hl.1 (Nat.le_of_ble_eq_true rfl) dX9_pot_39 ⟨Nat.zero_le _, Nat.zero_le _⟩ (fun H locs hW => ?_)
      obtain rfl := Option.some.inj h
      exact lb_iret X hW dX9_pot_42
    · have h := (if_neg c20).symm.trans h
      refine lv_aload_n hx hb dX9_pot_23 rfl (lv_at hl 0 rfl) ?_
      refine rg_X9_9 X hW dX9_pot_24 ?_
      refine lv_iload_n hx hb dX9_pot_27 rfl (lv_at hl 1 rfl) ?_
      refine lv_iload_n hx hb dX9_pot_28 rfl (lv_at hl 2 rfl) ?_
      refine rc_X9_45 X hW x1 x2 ⟨⟨rfl, rfl⟩, Nat.le_of_ble_eq_true rfl, Nat.le_of_ble_eq_true rfl⟩ hl.1 (Nat.le_of_ble_eq_true rfl) dX9_pot_29 ⟨Nat.zero_le _, Nat.zero_le _⟩ (fun H locs hW => ?_)
      obtain ⟨i32, h⟩ := lb_chk_in h
      refine lb_ild X hW (show lb_ar 54 = 60 + 1 from rfl) i32 dX9_pot_32 ?_
      refine lv_goto (tgt := 42) hx hb dX9_pot_33 (by decide) ?_
      obtain rfl := Option.some.inj h
      exact lb_iret X hW dX9_pot_42
  · have h := (if_pos c5).symm.trans h
    refine lv_aload_n hx hb dX9_pot_8 rfl (lv_at hl 0 rfl) ?_
    refine lv_iconst (v := -1) hx hb dX9_pot_9 rfl ?_
    obtain ⟨q10, e10, h⟩ := lb_bind h
    refine rc_X9_35 X hW e10 ⟨⟨rfl, rfl⟩, Nat.le_of_ble_eq_true rfl, Nat.le_of_ble_eq_true rfl⟩ hl.1 (Nat.le_of_ble_eq_true rfl) dX9_pot_10 ⟨Nat.zero_le _, Nat.zero_le _⟩ (fun H locs hW => ?_)
    obtain rfl := Option.some.inj h
    exact lb_iret X hW dX9_pot_13
abbrev rmX9_potsOf : Room := { frames := 1, cells := 0, slots := 0, locals := 21 }
def f_X9_potsOf_4 (σ : lb_Mem) : Nat → Int32 → Int32 → Int32 → Option Int32
  | 0, _, _, _ => none
  | n + 1, x1, x2, x3 => if (σ 54 (0 : Int32).toNatClampNeg) ≤ x3 then some x2 else lb_chk (lb_ix (f_X9_ofT x3 (5 : Int32)) 61) (if (σ 54 (f_X9_ofT x3 (5 : Int32)).toNatClampNeg) = x1 then lb_let ((x2 ||| ((1 : Int32) <<< (x3 &&& 31)))) (fun v37 : Int32 => f_X9_potsOf_4 σ n x1 v37 (x3 + 1)) else lb_let ((x2 ||| (0 : Int32))) (fun v37 : Int32 => f_X9_potsOf_4 σ n x1 v37 (x3 + 1)))
set_option maxRecDepth 20000 in
set_option maxHeartbeats 4000000 in
theorem w_X9_potsOf_4 {p : Program} {l : Launch} {e : Env} {s : State} {m : MethodId} {args : Array Value} {below : List Frame} {meth : Method} {c : Code} {G : lb_G} {σ : lb_Mem} {qr : Int32} (X : lb_C G p s m args meth c cX9_potsOf 4 RX9 (some .int)) : ∀ (n : Nat) (x1 : Int32) (x2 : Int32) (x3 : Int32) (H : Heap) (locs : List Loc) (ls : Array Slot), f_X9_potsOf_4 σ n x1 x2 x3 = some qr → lb_W G s σ H locs → lv_has ls 4 [(0, .ref (lb_ad G 53)), (1, .int x1), (2, .int x2), (3, .int x3)] → W p l e rmX9_potsOf s m args below meth c H locs 0 0 (MQ below (lb_QI G qr σ) args s 0 0 (lb_A G)) (F0 m 4 ls []) := by
  have hx := X.1
  have hb := X.2.1
  intro n
  induction n with
  | zero => intro x1 x2 x3 H locs ls h hW hl; exact absurd h (fun z => by cases z)
  | succ n ih =>
    intro x1 x2 x3 H locs ls h hW hl
    have h : (if (σ 54 (0 : Int32).toNatClampNeg) ≤ x3 then some x2 else lb_chk (lb_ix (f_X9_ofT x3 (5 : Int32)) 61) (if (σ 54 (f_X9_ofT x3 (5 : Int32)).toNatClampNeg) = x1 then lb_let ((x2 ||| ((1 : Int32) <<< (x3 &&& 31)))) (fun v37 : Int32 => f_X9_potsOf_4 σ n x1 v37 (x3 + 1)) else lb_let ((x2 ||| (0 : Int32))) (fun v37 : Int32 => f_X9_potsOf_4 σ n x1 v37 (x3 + 1)))) = some qr := h
    refine lv_iload_n hx hb dX9_potsOf_4 rfl (lv_at hl 3 rfl) ?_
    refine lv_aload_n hx hb dX9_potsOf_5 rfl (lv_at hl 0 rfl) ?_
    refine rg_X9_9 X hW dX9_potsOf_6 ?_
    refine lv_iconst (v := 0) hx hb dX9_potsOf_9 rfl ?_
    refine lb_ild X hW (show lb_ar 54 = 60 + 1 from rfl) (lb_inC rfl) dX9_potsOf_10 ?_
    refine lv_icmp_ge (tgt := 44) hx hb dX9_potsOf_11 (by decide) (fun c11 => ?_) (fun c11 => ?_)
    · have h := (if_pos c11).symm.trans h
      refine lv_iload_n hx hb dX9_potsOf_44 rfl (lv_at hl 2 rfl) ?_
      obtain rfl := Option.some.inj h
      exact lb_iret X hW dX9_potsOf_45
    · have h := (if_neg c11).symm.trans h
      refine lv_iload_n hx hb dX9_potsOf_14 rfl (lv_at hl 2 rfl) ?_
      refine lv_aload_n hx hb dX9_potsOf_15 rfl (lv_at hl 0 rfl) ?_
      refine rg_X9_9 X hW dX9_potsOf_16 ?_
      refine lv_iload_n hx hb dX9_potsOf_19 rfl (lv_at hl 3 rfl) ?_
      refine lv_iconst (v := 5) hx hb dX9_potsOf_20 rfl ?_
      refine rc_X9_45 X hW x3 (5 : Int32) ⟨⟨rfl, rfl⟩, Nat.le_of_ble_eq_true rfl, Nat.le_of_ble_eq_true rfl⟩ hl.1 (Nat.le_of_ble_eq_true rfl) dX9_potsOf_21 ⟨Nat.zero_le _, Nat.zero_le _⟩ (fun H locs hW => ?_)
      obtain ⟨i24, h⟩ := lb_chk_in h
      refine lb_ild X hW (show lb_ar 54 = 60 + 1 from rfl) i24 dX9_potsOf_24 ?_
      refine lv_iload_n hx hb dX9_potsOf_25 rfl (lv_at hl 1 rfl) ?_
      refine lv_icmp_ne (tgt := 35) hx hb dX9_potsOf_26 (by decide) (fun c26 => ?_) (fun c26 => ?_)
      · have h := (if_neg c26).symm.trans h
        refine lv_iconst (v := 0) hx hb dX9_potsOf_35 rfl ?_
        refine lv_ior hx hb dX9_potsOf_36 ?_
        refine lv_topi (fun v37 e37 => ?_)
        have h := lb_letI e37 h
        refine lv_istore_n (lv' := [(2, .int v37), (0, .ref (lb_ad G 53)), (1, .int x1), (3, .int x3)]) hx hb dX9_potsOf_37 rfl hl (by decide) rfl (fun ls hl => ?_)
        refine lv_iinc (v := (x3 + 1)) (lv' := [(3, .int (x3 + 1)), (2, .int v37), (0, .ref (lb_ad G 53)), (1, .int x1)]) hx hb dX9_potsOf_38 hl (k := 3) rfl rfl (by decide) rfl (fun ls hl => ?_)
        refine lv_goto (tgt := 4) hx hb dX9_potsOf_41 (by decide) ?_
        exact ih x1 v37 (x3 + 1) _ _ _ h hW (lv_sub hl [2, 3, 1, 0] rfl)
      · have h := (if_pos c26).symm.trans h
        refine lv_iconst (v := 1) hx hb dX9_potsOf_29 rfl ?_
        refine lv_iload_n hx hb dX9_potsOf_30 rfl (lv_at hl 3 rfl) ?_
        refine lv_ishl hx hb dX9_potsOf_31 ?_
        refine lv_goto (tgt := 36) hx hb dX9_potsOf_32 (by decide) ?_
        refine lv_ior hx hb dX9_potsOf_36 ?_
        refine lv_topi (fun v37 e37 => ?_)
        have h := lb_letI e37 h
        refine lv_istore_n (lv' := [(2, .int v37), (0, .ref (lb_ad G 53)), (1, .int x1), (3, .int x3)]) hx hb dX9_potsOf_37 rfl hl (by decide) rfl (fun ls hl => ?_)
        refine lv_iinc (v := (x3 + 1)) (lv' := [(3, .int (x3 + 1)), (2, .int v37), (0, .ref (lb_ad G 53)), (1, .int x1)]) hx hb dX9_potsOf_38 hl (k := 3) rfl rfl (by decide) rfl (fun ls hl => ?_)
        refine lv_goto (tgt := 4) hx hb dX9_potsOf_41 (by decide) ?_
        exact ih x1 v37 (x3 + 1) _ _ _ h hW (lv_sub hl [2, 3, 1, 0] rfl)
def f_X9_potsOf (σ : lb_Mem) (x1 : Int32) : Option Int32 := f_X9_potsOf_4 σ lb_N x1 (0 : Int32) (0 : Int32)
set_option maxRecDepth 20000 in
set_option maxHeartbeats 4000000 in
theorem m_X9_potsOf (l : Launch) (G : lb_G) (σ : lb_Mem) (x1 : Int32) (qr : Int32) (h : f_X9_potsOf σ x1 = some qr) : lb_M l yX9_potsOf cX9_potsOf 4 (some .int) rmX9_potsOf [.ref (lb_ad G 53), .int x1] G σ (lb_QI G qr σ) := by
  refine lb_start RX9 (by decide +kernel) rfl (Nat.le_of_ble_eq_true rfl) (fun p e s m below meth c X hW ls hl => ?_)
  have hx := X.1
  have hb := X.2.1
  have hl : lv_has ls 4 [(0, .ref (lb_ad G 53)), (1, .int x1)] := hl
  have h : (f_X9_potsOf_4 σ lb_N x1 (0 : Int32) (0 : Int32)) = some qr := h
  skip
  refine lv_iconst (v := 0) hx hb dX9_potsOf_0 rfl ?_
  refine lv_istore_n (lv' := [(2, .int (0 : Int32)), (0, .ref (lb_ad G 53)), (1, .int x1)]) hx hb dX9_potsOf_1 rfl hl (by decide) rfl (fun ls hl => ?_)
  refine lv_iconst (v := 0) hx hb dX9_potsOf_2 rfl ?_
  refine lv_istore_n (lv' := [(3, .int (0 : Int32)), (2, .int (0 : Int32)), (0, .ref (lb_ad G 53)), (1, .int x1)]) hx hb dX9_potsOf_3 rfl hl (by decide) rfl (fun ls hl => ?_)
  exact w_X9_potsOf_4 X lb_N x1 (0 : Int32) (0 : Int32) _ _ _ h hW (lv_sub hl [2, 3, 1, 0] rfl)
theorem rc_X9_119 {p : Program} {l : Launch} {e : Env} {R : Room} {s : State} {m : MethodId} {args : Array Value} {below : List Frame} {meth : Method} {c : Code} {H : Heap} {locs : List Loc} {cells slots : Nat} {Q : State → Prop} {cc : ByteArray} {pc nL : Nat} {ls : Array Slot} {rest : List Value} {G : lb_G} {σ : lb_Mem} {ret : Option FieldType} (X : lb_C G p s m args meth c cc nL RX9 ret) (hW : lb_W G s σ H locs) {x1 : Int32} {qr : Int32} (h : f_X9_potsOf σ x1 = some qr) (hR : lb_room rmX9_potsOf R 4) (hls : ls.size = nL) (hrest : (rest.map fun v => v.category).sum ≤ 8) (d : decode cc pc = .ok (.invokevirtual 119, 3)) (hcap : cells ≤ R.cells ∧ slots ≤ R.slots) (kk : ∀ (H1 : Heap) (locs1 : List Loc), lb_W G s σ H1 locs1 → W p l e R s m args below meth c H1 locs1 cells slots Q (F0 m (pc + 3) ls (.int qr :: rest))) : W p l e R s m args below meth c H locs cells slots Q (F0 m pc ls (.int x1 :: .ref (lb_ad G 53) :: rest)) :=
  lb_goI hW (lb_runV (As := [.int x1]) X hW (m_X9_potsOf l G σ x1 qr h) (n := 1) ⟨qw_894, qw_52, qw_897, by decide +kernel⟩ hR qw_896 qw_26 lb_is53 rfl hls hrest d hcap) kk
abbrev rmX9_person : Room := { frames := 3, cells := 0, slots := 0, locals := 67 }
def f_X9_person (x1 : Int32) (x2 : Int32) (σ : lb_Mem) : Option (Int32 × lb_Mem) := if (f_X9_isPerson σ x1) = 0 then (f_X9_no (-1 : Int32) σ).bind (fun q10 => some (q10.1, q10.2)) else if x2 = 0 then lb_chk (lb_ix (f_X9_ofP x1 x2) 61) (some ((σ 54 (f_X9_ofP x1 x2).toNatClampNeg), σ)) else if x2 = 1 then lb_chk (lb_ix (f_X9_ofP x1 x2) 61) (some ((σ 54 (f_X9_ofP x1 x2).toNatClampNeg), σ)) else if x2 = 2 then (f_X9_opensIn σ 54 x1).bind (fun q60 => some (q60, σ)) else if x2 = 3 then (f_X9_potsOf σ x1).bind (fun q66 => some (q66, σ)) else (f_X9_no (-2 : Int32) σ).bind (fun q73 => some (q73.1, q73.2))
set_option maxRecDepth 20000 in
set_option maxHeartbeats 4000000 in
theorem m_X9_person (l : Launch) (G : lb_G) (σ : lb_Mem) (x1 : Int32) (x2 : Int32) (qr : (Int32 × lb_Mem)) (h : f_X9_person x1 x2 σ = some qr) : lb_M l yX9_person cX9_person 3 (some .int) rmX9_person [.ref (lb_ad G 53), .int x1, .int x2] G σ (lb_QI G qr.1 qr.2) := by
  refine lb_start RX9 (by decide +kernel) rfl (Nat.le_of_ble_eq_true rfl) (fun p e s m below meth c X hW ls hl => ?_)
  have hx := X.1
  have hb := X.2.1
  have hl : lv_has ls 3 [(0, .ref (lb_ad G 53)), (1, .int x1), (2, .int x2)] := hl
  have h : (if (f_X9_isPerson σ x1) = 0 then (f_X9_no (-1 : Int32) σ).bind (fun q10 => some (q10.1, q10.2)) else if x2 = 0 then lb_chk (lb_ix (f_X9_ofP x1 x2) 61) (some ((σ 54 (f_X9_ofP x1 x2).toNatClampNeg), σ)) else if x2 = 1 then lb_chk (lb_ix (f_X9_ofP x1 x2) 61) (some ((σ 54 (f_X9_ofP x1 x2).toNatClampNeg), σ)) else if x2 = 2 then (f_X9_opensIn σ 54 x1).bind (fun q60 => some (q60, σ)) else if x2 = 3 then (f_X9_potsOf σ x1).bind (fun q66 => some (q66, σ)) else (f_X9_no (-2 : Int32) σ).bind (fun q73 => some (q73.1, q73.2))) = some qr := h
  skip
  refine lv_aload_n hx hb dX9_person_0 rfl (lv_at hl 0 rfl) ?_
  refine lv_iload_n hx hb dX9_person_1 rfl (lv_at hl 1 rfl) ?_
  refine rc_X9_95 X hW x1 ⟨⟨rfl, rfl⟩, Nat.le_of_ble_eq_true rfl, Nat.le_of_ble_eq_true rfl⟩ hl.1 (Nat.le_of_ble_eq_true rfl) dX9_person_2 ⟨Nat.zero_le _, Nat.zero_le _⟩ (fun H locs hW => ?_)
  refine lv_if_ne (tgt := 14) hx hb dX9_person_5 (by decide) (fun c5 => ?_) (fun c5 => ?_)
  · have h := (if_neg c5).symm.trans h
    refine lv_iload_n hx hb dX9_person_14 rfl (lv_at hl 2 rfl) ?_
    by_cases c15_0 : x2 = 0
    · have h := (if_pos c15_0).symm.trans h
      refine lv_tableIn (tgt := 44) hx hb dX9_person_15 (by rw [c15_0]; decide) (by rw [c15_0]; decide) (off := 29) (by rw [c15_0]; rfl) (by decide) ?_
      refine lv_aload_n hx hb dX9_person_44 rfl (lv_at hl 0 rfl) ?_
      refine rg_X9_9 X hW dX9_person_45 ?_
      refine lv_iload_n hx hb dX9_person_48 rfl (lv_at hl 1 rfl) ?_
      refine lv_iload_n hx hb dX9_person_49 rfl (lv_at hl 2 rfl) ?_
      refine rc_X9_52 X hW x1 x2 ⟨⟨rfl, rfl⟩, Nat.le_of_ble_eq_true rfl, Nat.le_of_ble_eq_true rfl⟩ hl.1 (Nat.le_of_ble_eq_true rfl) dX9_person_50 ⟨Nat.zero_le _, Nat.zero_le _⟩ (fun H locs hW => ?_)
      obtain ⟨i53, h⟩ := lb_chk_in h
      refine lb_ild X hW (show lb_ar 54 = 60 + 1 from rfl) i53 dX9_person_53 ?_
      obtain rfl := Option.some.inj h
      exact lb_iret X hW dX9_person_54
    have h := (if_neg c15_0).symm.trans h
    by_cases c15_1 : x2 = 1
    · have h := (if_pos c15_1).symm.trans h
      refine lv_tableIn (tgt := 44) hx hb dX9_person_15 (by rw [c15_1]; decide) (by rw [c15_1]; decide) (off := 29) (by rw [c15_1]; rfl) (by decide) ?_
      refine lv_aload_n hx hb dX9_person_44 rfl (lv_at hl 0 rfl) ?_
      refine rg_X9_9 X hW dX9_person_45 ?_
      refine lv_iload_n hx hb dX9_person_48 rfl (lv_at hl 1 rfl) ?_
      refine lv_iload_n hx hb dX9_person_49 rfl (lv_at hl 2 rfl) ?_
      refine rc_X9_52 X hW x1 x2 ⟨⟨rfl, rfl⟩, Nat.le_of_ble_eq_true rfl, Nat.le_of_ble_eq_true rfl⟩ hl.1 (Nat.le_of_ble_eq_true rfl) dX9_person_50 ⟨Nat.zero_le _, Nat.zero_le _⟩ (fun H locs hW => ?_)
      obtain ⟨i53, h⟩ := lb_chk_in h
      refine lb_ild X hW (show lb_ar 54 = 60 + 1 from rfl) i53 dX9_person_53 ?_
      obtain rfl := Option.some.inj h
      exact lb_iret X hW dX9_person_54
    have h := (if_neg c15_1).symm.trans h
    by_cases c15_2 : x2 = 2
    · have h := (if_pos c15_2).symm.trans h
      refine lv_tableIn (tgt := 55) hx hb dX9_person_15 (by rw [c15_2]; decide) (by rw [c15_2]; decide) (off := 40) (by rw [c15_2]; rfl) (by decide) ?_
      refine lv_aload_n hx hb dX9_person_55 rfl (lv_at hl 0 rfl) ?_
      refine rg_X9_9 X hW dX9_person_56 ?_
      refine lv_iload_n hx hb dX9_person_59 rfl (lv_at hl 1 rfl) ?_
      obtain ⟨q60, e60, h⟩ := lb_bind h
      refine rc_X9_59 X hW (show lb_ar 54 = 60 + 1 from rfl) e60 ⟨⟨rfl, rfl⟩, Nat.le_of_ble_eq_true rfl, Nat.le_of_ble_eq_true rfl⟩ hl.1 (Nat.le_of_ble_eq_true rfl) dX9_person_60 ⟨Nat.zero_le _, Nat.zero_le _⟩ (fun H locs hW => ?_)
      obtain rfl := Option.some.inj h
      exact lb_iret X hW dX9_person_63
    have h := (if_neg c15_2).symm.trans h
    by_cases c15_3 : x2 = 3
    · have h := (if_pos c15_3).symm.trans h
      refine lv_tableIn (tgt := 64) hx hb dX9_person_15 (by rw [c15_3]; decide) (by rw [c15_3]; decide) (off := 49) (by rw [c15_3]; rfl) (by decide) ?_
      refine lv_aload_n hx hb dX9_person_64 rfl (lv_at hl 0 rfl) ?_
      refine lv_iload_n hx hb dX9_person_65 rfl (lv_at hl 1 rfl) ?_
      obtain ⟨q66, e66, h⟩ := lb_bind h
      refine rc_X9_119 X hW e66 ⟨⟨rfl, rfl⟩, Nat.le_of_ble_eq_true rfl, Nat.le_of_ble_eq_true rfl⟩ hl.1 (Nat.le_of_ble_eq_true rfl) dX9_person_66 ⟨Nat.zero_le _, Nat.zero_le _⟩ (fun H locs hW => ?_)
      obtain rfl := Option.some.inj h
      exact lb_iret X hW dX9_person_69
    have h := (if_neg c15_3).symm.trans h
    refine lb_tswD (tgt := 70) (lb_kn_cons c15_0 (lb_kn_cons c15_1 (lb_kn_cons c15_2 (lb_kn_cons c15_3 lb_kn_nil)))) hx hb dX9_person_15 (by decide) (by decide) (by decide) (by decide) (by decide) ?_
    refine lv_aload_n hx hb dX9_person_70 rfl (lv_at hl 0 rfl) ?_
    refine lv_bipush (v := -2) hx hb dX9_person_71 rfl ?_
    obtain ⟨q73, e73, h⟩ := lb_bind h
    refine rc_X9_35 X hW e73 ⟨⟨rfl, rfl⟩, Nat.le_of_ble_eq_true rfl, Nat.le_of_ble_eq_true rfl⟩ hl.1 (Nat.le_of_ble_eq_true rfl) dX9_person_73 ⟨Nat.zero_le _, Nat.zero_le _⟩ (fun H locs hW => ?_)
    obtain rfl := Option.some.inj h
    exact lb_iret X hW dX9_person_76
  · have h := (if_pos c5).symm.trans h
    refine lv_aload_n hx hb dX9_person_8 rfl (lv_at hl 0 rfl) ?_
    refine lv_iconst (v := -1) hx hb dX9_person_9 rfl ?_
    obtain ⟨q10, e10, h⟩ := lb_bind h
    refine rc_X9_35 X hW e10 ⟨⟨rfl, rfl⟩, Nat.le_of_ble_eq_true rfl, Nat.le_of_ble_eq_true rfl⟩ hl.1 (Nat.le_of_ble_eq_true rfl) dX9_person_10 ⟨Nat.zero_le _, Nat.zero_le _⟩ (fun H locs hW => ?_)
    obtain rfl := Option.some.inj h
    exact lb_iret X hW dX9_person_13
theorem rc_X9_122 {p : Program} {l : Launch} {e : Env} {R : Room} {s : State} {m : MethodId} {args : Array Value} {below : List Frame} {meth : Method} {c : Code} {H : Heap} {locs : List Loc} {cells slots : Nat} {Q : State → Prop} {cc : ByteArray} {pc nL : Nat} {ls : Array Slot} {rest : List Value} {G : lb_G} {σ : lb_Mem} {ret : Option FieldType} (X : lb_C G p s m args meth c cc nL RX9 ret) (hW : lb_W G s σ H locs) {x1 : Int32} {qr : (Int32 × lb_Mem)} (h : f_X9_noFar x1 σ = some qr) (hR : lb_room rmX9_noFar R 2) (hls : ls.size = nL) (hrest : (rest.map fun v => v.category).sum ≤ 8) (d : decode cc pc = .ok (.invokevirtual 122, 3)) (hcap : cells ≤ R.cells ∧ slots ≤ R.slots) (kk : ∀ (H1 : Heap) (locs1 : List Loc), lb_W G s qr.2 H1 locs1 → W p l e R s m args below meth c H1 locs1 cells slots Q (F0 m (pc + 3) ls (.int qr.1 :: rest))) : W p l e R s m args below meth c H locs cells slots Q (F0 m pc ls (.int x1 :: .ref (lb_ad G 53) :: rest)) :=
  lb_goI hW (lb_runV (As := [.int x1]) X hW (m_X9_noFar l G σ x1 qr h) (n := 1) ⟨qw_902, qw_52, qw_905, by decide +kernel⟩ hR qw_904 qw_27 lb_is53 rfl hls hrest d hcap) kk
abbrev rmX9_gains : Room := { frames := 2, cells := 0, slots := 0, locals := 48 }
def f_X9_gains_28 (σ : lb_Mem) : Option (Int32 × lb_Mem) := (f_X9_noFar (-1 : Int32) σ).bind (fun q30 => some (q30.1, q30.2))
set_option maxRecDepth 20000 in
set_option maxHeartbeats 4000000 in
theorem w_X9_gains_28 {p : Program} {l : Launch} {e : Env} {s : State} {m : MethodId} {args : Array Value} {below : List Frame} {meth : Method} {c : Code} {G : lb_G} {qr : (Int32 × lb_Mem)} (X : lb_C G p s m args meth c cX9_gains 3 RX9 (some .int)) : ∀ (σ : lb_Mem) (H : Heap) (locs : List Loc) (ls : Array Slot), f_X9_gains_28 σ = some qr → lb_W G s σ H locs → lv_has ls 3 [(0, .ref (lb_ad G 53))] → W p l e rmX9_gains s m args below meth c H locs 0 0 (MQ below (lb_QI G qr.1 qr.2) args s 0 0 (lb_A G)) (F0 m 28 ls []) := by
  have hx := X.1
  have hb := X.2.1
  intro σ H locs ls h hW hl
  have h : ((f_X9_noFar (-1 : Int32) σ).bind (fun q30 => some (q30.1, q30.2))) = some qr := h
  refine lv_aload_n hx hb dX9_gains_28 rfl (lv_at hl 0 rfl) ?_
  refine lv_iconst (v := -1) hx hb dX9_gains_29 rfl ?_
  obtain ⟨q30, e30, h⟩ := lb_bind h
  refine rc_X9_122 X hW e30 ⟨⟨rfl, rfl⟩, Nat.le_of_ble_eq_true rfl, Nat.le_of_ble_eq_true rfl⟩ hl.1 (Nat.le_of_ble_eq_true rfl) dX9_gains_30 ⟨Nat.zero_le _, Nat.zero_le _⟩ (fun H locs hW => ?_)
  obtain rfl := Option.some.inj h
  exact lb_iret X hW dX9_gains_33
def f_X9_gains (x1 : Int32) (x2 : Int32) (σ : lb_Mem) : Option (Int32 × lb_Mem) := if (f_X9_isPot σ x1) = 0 then f_X9_gains_28 σ else if (f_X9_isPerson σ x2) = 0 then f_X9_gains_28 σ else (f_X9_gainsIn σ 54 x1 x2).bind (fun q22 => some (q22, σ))
set_option maxRecDepth 20000 in
set_option maxHeartbeats 4000000 in
theorem m_X9_gains (l : Launch) (G : lb_G) (σ : lb_Mem) (x1 : Int32) (x2 : Int32) (qr : (Int32 × lb_Mem)) (h : f_X9_gains x1 x2 σ = some qr) : lb_M l yX9_gains cX9_gains 3 (some .int) rmX9_gains [.ref (lb_ad G 53), .int x1, .int x2] G σ (lb_QI G qr.1 qr.2) := by
  refine lb_start RX9 (by decide +kernel) rfl (Nat.le_of_ble_eq_true rfl) (fun p e s m below meth c X hW ls hl => ?_)
  have hx := X.1
  have hb := X.2.1
  have hl : lv_has ls 3 [(0, .ref (lb_ad G 53)), (1, .int x1), (2, .int x2)] := hl
  have h : (if (f_X9_isPot σ x1) = 0 then f_X9_gains_28 σ else if (f_X9_isPerson σ x2) = 0 then f_X9_gains_28 σ else (f_X9_gainsIn σ 54 x1 x2).bind (fun q22 => some (q22, σ))) = some qr := h
  skip
  refine lv_aload_n hx hb dX9_gains_0 rfl (lv_at hl 0 rfl) ?_
  refine lv_iload_n hx hb dX9_gains_1 rfl (lv_at hl 1 rfl) ?_
  refine rc_X9_102 X hW x1 ⟨⟨rfl, rfl⟩, Nat.le_of_ble_eq_true rfl, Nat.le_of_ble_eq_true rfl⟩ hl.1 (Nat.le_of_ble_eq_true rfl) dX9_gains_2 ⟨Nat.zero_le _, Nat.zero_le _⟩ (fun H locs hW => ?_)
  refine lv_if_eq (tgt := 28) hx hb dX9_gains_5 (by decide) (fun c5 => ?_) (fun c5 => ?_)
  · have h := (if_pos c5).symm.trans h
    exact w_X9_gains_28 X σ _ _ _ h hW (lv_sub hl [0] rfl)
  · have h := (if_neg c5).symm.trans h
    refine lv_aload_n hx hb dX9_gains_8 rfl (lv_at hl 0 rfl) ?_
    refine lv_iload_n hx hb dX9_gains_9 rfl (lv_at hl 2 rfl) ?_
    refine rc_X9_95 X hW x2 ⟨⟨rfl, rfl⟩, Nat.le_of_ble_eq_true rfl, Nat.le_of_ble_eq_true rfl⟩ hl.1 (Nat.le_of_ble_eq_true rfl) dX9_gains_10 ⟨Nat.zero_le _, Nat.zero_le _⟩ (fun H locs hW => ?_)
    refine lv_if_eq (tgt := 28) hx hb dX9_gains_13 (by decide) (fun c13 => ?_) (fun c13 => ?_)
    · have h := (if_pos c13).symm.trans h
      exact w_X9_gains_28 X σ _ _ _ h hW (lv_sub hl [0] rfl)
    · have h := (if_neg c13).symm.trans h
      refine lv_aload_n hx hb dX9_gains_16 rfl (lv_at hl 0 rfl) ?_
      refine rg_X9_9 X hW dX9_gains_17 ?_
      refine lv_iload_n hx hb dX9_gains_20 rfl (lv_at hl 1 rfl) ?_
      refine lv_iload_n hx hb dX9_gains_21 rfl (lv_at hl 2 rfl) ?_
      obtain ⟨q22, e22, h⟩ := lb_bind h
      refine rc_X9_63 X hW (show lb_ar 54 = 60 + 1 from rfl) e22 ⟨⟨rfl, rfl⟩, Nat.le_of_ble_eq_true rfl, Nat.le_of_ble_eq_true rfl⟩ hl.1 (Nat.le_of_ble_eq_true rfl) dX9_gains_22 ⟨Nat.zero_le _, Nat.zero_le _⟩ (fun H locs hW => ?_)
      refine lv_goto (tgt := 33) hx hb dX9_gains_25 (by decide) ?_
      obtain rfl := Option.some.inj h
      exact lb_iret X hW dX9_gains_33
abbrev rmX9_labels : Room := { frames := 2, cells := 0, slots := 0, locals := 43 }
def f_X9_labels_18 (σ : lb_Mem) : Option (Int32 × lb_Mem) := (f_X9_no (-1 : Int32) σ).bind (fun q20 => some (q20.1, q20.2))
set_option maxRecDepth 20000 in
set_option maxHeartbeats 4000000 in
theorem w_X9_labels_18 {p : Program} {l : Launch} {e : Env} {s : State} {m : MethodId} {args : Array Value} {below : List Frame} {meth : Method} {c : Code} {G : lb_G} {qr : (Int32 × lb_Mem)} (X : lb_C G p s m args meth c cX9_labels 4 RX9 (some .int)) : ∀ (σ : lb_Mem) (H : Heap) (locs : List Loc) (ls : Array Slot), f_X9_labels_18 σ = some qr → lb_W G s σ H locs → lv_has ls 4 [(0, .ref (lb_ad G 53))] → W p l e rmX9_labels s m args below meth c H locs 0 0 (MQ below (lb_QI G qr.1 qr.2) args s 0 0 (lb_A G)) (F0 m 18 ls []) := by
  have hx := X.1
  have hb := X.2.1
  intro σ H locs ls h hW hl
  have h : ((f_X9_no (-1 : Int32) σ).bind (fun q20 => some (q20.1, q20.2))) = some qr := h
  refine lv_aload_n hx hb dX9_labels_18 rfl (lv_at hl 0 rfl) ?_
  refine lv_iconst (v := -1) hx hb dX9_labels_19 rfl ?_
  obtain ⟨q20, e20, h⟩ := lb_bind h
  refine rc_X9_35 X hW e20 ⟨⟨rfl, rfl⟩, Nat.le_of_ble_eq_true rfl, Nat.le_of_ble_eq_true rfl⟩ hl.1 (Nat.le_of_ble_eq_true rfl) dX9_labels_20 ⟨Nat.zero_le _, Nat.zero_le _⟩ (fun H locs hW => ?_)
  obtain rfl := Option.some.inj h
  exact lb_iret X hW dX9_labels_23
def f_X9_labels (x1 : Int32) (x2 : Int32) (σ : lb_Mem) : Option (Int32 × lb_Mem) := if (f_X9_isPot σ x1) = 0 then f_X9_labels_18 σ else if (f_X9_isIn x2 (0 : Int32) (6 : Int32)) = 0 then f_X9_labels_18 σ else lb_chk (lb_ix (f_X9_ofT x1 (3 : Int32)) 61) (lb_let ((σ 54 (f_X9_ofT x1 (3 : Int32)).toNatClampNeg)) (fun v34 : Int32 => lb_chk (lb_ix (f_X9_ofT x1 (3 : Int32)) 61) (lb_let (lb_sto σ 54 (f_X9_ofT x1 (3 : Int32)).toNatClampNeg x2) (fun s45 : lb_Mem => some (v34, s45)))))
set_option maxRecDepth 20000 in
set_option maxHeartbeats 4000000 in
theorem m_X9_labels (l : Launch) (G : lb_G) (σ : lb_Mem) (x1 : Int32) (x2 : Int32) (qr : (Int32 × lb_Mem)) (h : f_X9_labels x1 x2 σ = some qr) : lb_M l yX9_labels cX9_labels 4 (some .int) rmX9_labels [.ref (lb_ad G 53), .int x1, .int x2] G σ (lb_QI G qr.1 qr.2) := by
  refine lb_start RX9 (by decide +kernel) rfl (Nat.le_of_ble_eq_true rfl) (fun p e s m below meth c X hW ls hl => ?_)
  have hx := X.1
  have hb := X.2.1
  have hl : lv_has ls 4 [(0, .ref (lb_ad G 53)), (1, .int x1), (2, .int x2)] := hl
  have h : (if (f_X9_isPot σ x1) = 0 then f_X9_labels_18 σ else if (f_X9_isIn x2 (0 : Int32) (6 : Int32)) = 0 then f_X9_labels_18 σ else lb_chk (lb_ix (f_X9_ofT x1 (3 : Int32)) 61) (lb_let ((σ 54 (f_X9_ofT x1 (3 : Int32)).toNatClampNeg)) (fun v34 : Int32 => lb_chk (lb_ix (f_X9_ofT x1 (3 : Int32)) 61) (lb_let (lb_sto σ 54 (f_X9_ofT x1 (3 : Int32)).toNatClampNeg x2) (fun s45 : lb_Mem => some (v34, s45)))))) = some qr := h
  skip
  refine lv_aload_n hx hb dX9_labels_0 rfl (lv_at hl 0 rfl) ?_
  refine lv_iload_n hx hb dX9_labels_1 rfl (lv_at hl 1 rfl) ?_
  refine rc_X9_102 X hW x1 ⟨⟨rfl, rfl⟩, Nat.le_of_ble_eq_true rfl, Nat.le_of_ble_eq_true rfl⟩ hl.1 (Nat.le_of_ble_eq_true rfl) dX9_labels_2 ⟨Nat.zero_le _, Nat.zero_le _⟩ (fun H locs hW => ?_)
  refine lv_if_eq (tgt := 18) hx hb dX9_labels_5 (by decide) (fun c5 => ?_) (fun c5 => ?_)
  · have h := (if_pos c5).symm.trans h
    exact w_X9_labels_18 X σ _ _ _ h hW (lv_sub hl [0] rfl)
  · have h := (if_neg c5).symm.trans h
    refine lv_iload_n hx hb dX9_labels_8 rfl (lv_at hl 2 rfl) ?_
    refine lv_iconst (v := 0) hx hb dX9_labels_9 rfl ?_
    refine lv_bipush (v := 6) hx hb dX9_labels_10 rfl ?_
    refine rc_X9_41 X hW x2 (0 : Int32) (6 : Int32) ⟨⟨rfl, rfl⟩, Nat.le_of_ble_eq_true rfl, Nat.le_of_ble_eq_true rfl⟩ hl.1 (Nat.le_of_ble_eq_true rfl) dX9_labels_12 ⟨Nat.zero_le _, Nat.zero_le _⟩ (fun H locs hW => ?_)
    refine lv_if_ne (tgt := 24) hx hb dX9_labels_15 (by decide) (fun c15 => ?_) (fun c15 => ?_)
    · have h := (if_neg c15).symm.trans h
      refine lv_aload_n hx hb dX9_labels_24 rfl (lv_at hl 0 rfl) ?_
      refine rg_X9_9 X hW dX9_labels_25 ?_
      refine lv_iload_n hx hb dX9_labels_28 rfl (lv_at hl 1 rfl) ?_
      refine lv_iconst (v := 3) hx hb dX9_labels_29 rfl ?_
      refine rc_X9_45 X hW x1 (3 : Int32) ⟨⟨rfl, rfl⟩, Nat.le_of_ble_eq_true rfl, Nat.le_of_ble_eq_true rfl⟩ hl.1 (Nat.le_of_ble_eq_true rfl) dX9_labels_30 ⟨Nat.zero_le _, Nat.zero_le _⟩ (fun H locs hW => ?_)
      obtain ⟨i33, h⟩ := lb_chk_in h
      refine lb_ild X hW (show lb_ar 54 = 60 + 1 from rfl) i33 dX9_labels_33 ?_
      refine lv_topi (fun v34 e34 => ?_)
      have h := lb_letI e34 h
      refine lv_istore_n (lv' := [(3, .int v34), (0, .ref (lb_ad G 53)), (1, .int x1), (2, .int x2)]) hx hb dX9_labels_34 rfl hl (by decide) rfl (fun ls hl => ?_)
      refine lv_aload_n hx hb dX9_labels_35 rfl (lv_at hl 1 rfl) ?_
      refine rg_X9_9 X hW dX9_labels_36 ?_
      refine lv_iload_n hx hb dX9_labels_39 rfl (lv_at hl 2 rfl) ?_
      refine lv_iconst (v := 3) hx hb dX9_labels_40 rfl ?_
      refine rc_X9_45 X hW x1 (3 : Int32) ⟨⟨rfl, rfl⟩, Nat.le_of_ble_eq_true rfl, Nat.le_of_ble_eq_true rfl⟩ hl.1 (Nat.le_of_ble_eq_true rfl) dX9_labels_41 ⟨Nat.zero_le _, Nat.zero_le _⟩ (fun H locs hW => ?_)
      refine lv_iload_n hx hb dX9_labels_44 rfl (lv_at hl 3 rfl) ?_
      obtain ⟨i45, h⟩ := lb_chk_in h
      refine lb_ist X hW (show lb_ar 54 = 60 + 1 from rfl) i45 dX9_labels_45 (fun H locs hW => ?_)
      obtain ⟨s45, e45⟩ : ∃ z, z = lb_sto σ 54 (f_X9_ofT x1 (3 : Int32)).toNatClampNeg x2 := ⟨_, rfl⟩
      rw [← e45] at hW
      have h := lb_letI e45 h
      refine lv_iload_n hx hb dX9_labels_46 rfl (lv_at hl 0 rfl) ?_
      obtain rfl := Option.some.inj h
      exact lb_iret X hW dX9_labels_47
    · have h := (if_pos c15).symm.trans h
      exact w_X9_labels_18 X σ _ _ _ h hW (lv_sub hl [0] rfl)
abbrev rmX9_gives : Room := { frames := 2, cells := 0, slots := 0, locals := 43 }
def f_X9_gives_16 (σ : lb_Mem) : Option (Int32 × lb_Mem) := (f_X9_no (-1 : Int32) σ).bind (fun q18 => some (q18.1, q18.2))
set_option maxRecDepth 20000 in
set_option maxHeartbeats 4000000 in
theorem w_X9_gives_16 {p : Program} {l : Launch} {e : Env} {s : State} {m : MethodId} {args : Array Value} {below : List Frame} {meth : Method} {c : Code} {G : lb_G} {qr : (Int32 × lb_Mem)} (X : lb_C G p s m args meth c cX9_gives 4 RX9 (some .int)) : ∀ (σ : lb_Mem) (H : Heap) (locs : List Loc) (ls : Array Slot), f_X9_gives_16 σ = some qr → lb_W G s σ H locs → lv_has ls 4 [(0, .ref (lb_ad G 53))] → W p l e rmX9_gives s m args below meth c H locs 0 0 (MQ below (lb_QI G qr.1 qr.2) args s 0 0 (lb_A G)) (F0 m 16 ls []) := by
  have hx := X.1
  have hb := X.2.1
  intro σ H locs ls h hW hl
  have h : ((f_X9_no (-1 : Int32) σ).bind (fun q18 => some (q18.1, q18.2))) = some qr := h
  refine lv_aload_n hx hb dX9_gives_16 rfl (lv_at hl 0 rfl) ?_
  refine lv_iconst (v := -1) hx hb dX9_gives_17 rfl ?_
  obtain ⟨q18, e18, h⟩ := lb_bind h
  refine rc_X9_35 X hW e18 ⟨⟨rfl, rfl⟩, Nat.le_of_ble_eq_true rfl, Nat.le_of_ble_eq_true rfl⟩ hl.1 (Nat.le_of_ble_eq_true rfl) dX9_gives_18 ⟨Nat.zero_le _, Nat.zero_le _⟩ (fun H locs hW => ?_)
  obtain rfl := Option.some.inj h
  exact lb_iret X hW dX9_gives_21
def f_X9_gives (x1 : Int32) (x2 : Int32) (σ : lb_Mem) : Option (Int32 × lb_Mem) := if (f_X9_isPot σ x1) = 0 then f_X9_gives_16 σ else if (f_X9_isPerson σ x2) = 0 then f_X9_gives_16 σ else lb_chk (lb_ix (f_X9_ofT x1 (5 : Int32)) 61) (lb_let ((σ 54 (f_X9_ofT x1 (5 : Int32)).toNatClampNeg)) (fun v32 : Int32 => lb_chk (lb_ix (f_X9_ofT x1 (5 : Int32)) 61) (lb_let (lb_sto σ 54 (f_X9_ofT x1 (5 : Int32)).toNatClampNeg x2) (fun s43 : lb_Mem => some (v32, s43)))))
set_option maxRecDepth 20000 in
set_option maxHeartbeats 4000000 in
theorem m_X9_gives (l : Launch) (G : lb_G) (σ : lb_Mem) (x1 : Int32) (x2 : Int32) (qr : (Int32 × lb_Mem)) (h : f_X9_gives x1 x2 σ = some qr) : lb_M l yX9_gives cX9_gives 4 (some .int) rmX9_gives [.ref (lb_ad G 53), .int x1, .int x2] G σ (lb_QI G qr.1 qr.2) := by
  refine lb_start RX9 (by decide +kernel) rfl (Nat.le_of_ble_eq_true rfl) (fun p e s m below meth c X hW ls hl => ?_)
  have hx := X.1
  have hb := X.2.1
  have hl : lv_has ls 4 [(0, .ref (lb_ad G 53)), (1, .int x1), (2, .int x2)] := hl
  have h : (if (f_X9_isPot σ x1) = 0 then f_X9_gives_16 σ else if (f_X9_isPerson σ x2) = 0 then f_X9_gives_16 σ else lb_chk (lb_ix (f_X9_ofT x1 (5 : Int32)) 61) (lb_let ((σ 54 (f_X9_ofT x1 (5 : Int32)).toNatClampNeg)) (fun v32 : Int32 => lb_chk (lb_ix (f_X9_ofT x1 (5 : Int32)) 61) (lb_let (lb_sto σ 54 (f_X9_ofT x1 (5 : Int32)).toNatClampNeg x2) (fun s43 : lb_Mem => some (v32, s43)))))) = some qr := h
  skip
  refine lv_aload_n hx hb dX9_gives_0 rfl (lv_at hl 0 rfl) ?_
  refine lv_iload_n hx hb dX9_gives_1 rfl (lv_at hl 1 rfl) ?_
  refine rc_X9_102 X hW x1 ⟨⟨rfl, rfl⟩, Nat.le_of_ble_eq_true rfl, Nat.le_of_ble_eq_true rfl⟩ hl.1 (Nat.le_of_ble_eq_true rfl) dX9_gives_2 ⟨Nat.zero_le _, Nat.zero_le _⟩ (fun H locs hW => ?_)
  refine lv_if_eq (tgt := 16) hx hb dX9_gives_5 (by decide) (fun c5 => ?_) (fun c5 => ?_)
  · have h := (if_pos c5).symm.trans h
    exact w_X9_gives_16 X σ _ _ _ h hW (lv_sub hl [0] rfl)
  · have h := (if_neg c5).symm.trans h
    refine lv_aload_n hx hb dX9_gives_8 rfl (lv_at hl 0 rfl) ?_
    refine lv_iload_n hx hb dX9_gives_9 rfl (lv_at hl 2 rfl) ?_
    refine rc_X9_95 X hW x2 ⟨⟨rfl, rfl⟩, Nat.le_of_ble_eq_true rfl, Nat.le_of_ble_eq_true rfl⟩ hl.1 (Nat.le_of_ble_eq_true rfl) dX9_gives_10 ⟨Nat.zero_le _, Nat.zero_le _⟩ (fun H locs hW => ?_)
    refine lv_if_ne (tgt := 22) hx hb dX9_gives_13 (by decide) (fun c13 => ?_) (fun c13 => ?_)
    · have h := (if_neg c13).symm.trans h
      refine lv_aload_n hx hb dX9_gives_22 rfl (lv_at hl 0 rfl) ?_
      refine rg_X9_9 X hW dX9_gives_23 ?_
      refine lv_iload_n hx hb dX9_gives_26 rfl (lv_at hl 1 rfl) ?_
      refine lv_iconst (v := 5) hx hb dX9_gives_27 rfl ?_
      refine rc_X9_45 X hW x1 (5 : Int32) ⟨⟨rfl, rfl⟩, Nat.le_of_ble_eq_true rfl, Nat.le_of_ble_eq_true rfl⟩ hl.1 (Nat.le_of_ble_eq_true rfl) dX9_gives_28 ⟨Nat.zero_le _, Nat.zero_le _⟩ (fun H locs hW => ?_)
      obtain ⟨i31, h⟩ := lb_chk_in h
      refine lb_ild X hW (show lb_ar 54 = 60 + 1 from rfl) i31 dX9_gives_31 ?_
      refine lv_topi (fun v32 e32 => ?_)
      have h := lb_letI e32 h
      refine lv_istore_n (lv' := [(3, .int v32), (0, .ref (lb_ad G 53)), (1, .int x1), (2, .int x2)]) hx hb dX9_gives_32 rfl hl (by decide) rfl (fun ls hl => ?_)
      refine lv_aload_n hx hb dX9_gives_33 rfl (lv_at hl 1 rfl) ?_
      refine rg_X9_9 X hW dX9_gives_34 ?_
      refine lv_iload_n hx hb dX9_gives_37 rfl (lv_at hl 2 rfl) ?_
      refine lv_iconst (v := 5) hx hb dX9_gives_38 rfl ?_
      refine rc_X9_45 X hW x1 (5 : Int32) ⟨⟨rfl, rfl⟩, Nat.le_of_ble_eq_true rfl, Nat.le_of_ble_eq_true rfl⟩ hl.1 (Nat.le_of_ble_eq_true rfl) dX9_gives_39 ⟨Nat.zero_le _, Nat.zero_le _⟩ (fun H locs hW => ?_)
      refine lv_iload_n hx hb dX9_gives_42 rfl (lv_at hl 3 rfl) ?_
      obtain ⟨i43, h⟩ := lb_chk_in h
      refine lb_ist X hW (show lb_ar 54 = 60 + 1 from rfl) i43 dX9_gives_43 (fun H locs hW => ?_)
      obtain ⟨s43, e43⟩ : ∃ z, z = lb_sto σ 54 (f_X9_ofT x1 (5 : Int32)).toNatClampNeg x2 := ⟨_, rfl⟩
      rw [← e43] at hW
      have h := lb_letI e43 h
      refine lv_iload_n hx hb dX9_gives_44 rfl (lv_at hl 0 rfl) ?_
      obtain rfl := Option.some.inj h
      exact lb_iret X hW dX9_gives_45
    · have h := (if_pos c13).symm.trans h
      exact w_X9_gives_16 X σ _ _ _ h hW (lv_sub hl [0] rfl)
abbrev rmX9_likes : Room := { frames := 2, cells := 0, slots := 0, locals := 43 }
def f_X9_likes_17 (σ : lb_Mem) : Option (Int32 × lb_Mem) := (f_X9_no (-1 : Int32) σ).bind (fun q19 => some (q19.1, q19.2))
set_option maxRecDepth 20000 in
set_option maxHeartbeats 4000000 in
theorem w_X9_likes_17 {p : Program} {l : Launch} {e : Env} {s : State} {m : MethodId} {args : Array Value} {below : List Frame} {meth : Method} {c : Code} {G : lb_G} {qr : (Int32 × lb_Mem)} (X : lb_C G p s m args meth c cX9_likes 4 RX9 (some .int)) : ∀ (σ : lb_Mem) (H : Heap) (locs : List Loc) (ls : Array Slot), f_X9_likes_17 σ = some qr → lb_W G s σ H locs → lv_has ls 4 [(0, .ref (lb_ad G 53))] → W p l e rmX9_likes s m args below meth c H locs 0 0 (MQ below (lb_QI G qr.1 qr.2) args s 0 0 (lb_A G)) (F0 m 17 ls []) := by
  have hx := X.1
  have hb := X.2.1
  intro σ H locs ls h hW hl
  have h : ((f_X9_no (-1 : Int32) σ).bind (fun q19 => some (q19.1, q19.2))) = some qr := h
  refine lv_aload_n hx hb dX9_likes_17 rfl (lv_at hl 0 rfl) ?_
  refine lv_iconst (v := -1) hx hb dX9_likes_18 rfl ?_
  obtain ⟨q19, e19, h⟩ := lb_bind h
  refine rc_X9_35 X hW e19 ⟨⟨rfl, rfl⟩, Nat.le_of_ble_eq_true rfl, Nat.le_of_ble_eq_true rfl⟩ hl.1 (Nat.le_of_ble_eq_true rfl) dX9_likes_19 ⟨Nat.zero_le _, Nat.zero_le _⟩ (fun H locs hW => ?_)
  obtain rfl := Option.some.inj h
  exact lb_iret X hW dX9_likes_22
def f_X9_likes (x1 : Int32) (x2 : Int32) (σ : lb_Mem) : Option (Int32 × lb_Mem) := if (f_X9_isPerson σ x1) = 0 then f_X9_likes_17 σ else if (f_X9_isIn x2 (0 : Int32) (5 : Int32)) = 0 then f_X9_likes_17 σ else lb_chk (lb_ix (f_X9_ofP x1 (0 : Int32)) 61) (lb_let ((σ 54 (f_X9_ofP x1 (0 : Int32)).toNatClampNeg)) (fun v33 : Int32 => lb_chk (lb_ix (f_X9_ofP x1 (0 : Int32)) 61) (lb_let (lb_sto σ 54 (f_X9_ofP x1 (0 : Int32)).toNatClampNeg x2) (fun s44 : lb_Mem => some (v33, s44)))))
set_option maxRecDepth 20000 in
set_option maxHeartbeats 4000000 in
theorem m_X9_likes (l : Launch) (G : lb_G) (σ : lb_Mem) (x1 : Int32) (x2 : Int32) (qr : (Int32 × lb_Mem)) (h : f_X9_likes x1 x2 σ = some qr) : lb_M l yX9_likes cX9_likes 4 (some .int) rmX9_likes [.ref (lb_ad G 53), .int x1, .int x2] G σ (lb_QI G qr.1 qr.2) := by
  refine lb_start RX9 (by decide +kernel) rfl (Nat.le_of_ble_eq_true rfl) (fun p e s m below meth c X hW ls hl => ?_)
  have hx := X.1
  have hb := X.2.1
  have hl : lv_has ls 4 [(0, .ref (lb_ad G 53)), (1, .int x1), (2, .int x2)] := hl
  have h : (if (f_X9_isPerson σ x1) = 0 then f_X9_likes_17 σ else if (f_X9_isIn x2 (0 : Int32) (5 : Int32)) = 0 then f_X9_likes_17 σ else lb_chk (lb_ix (f_X9_ofP x1 (0 : Int32)) 61) (lb_let ((σ 54 (f_X9_ofP x1 (0 : Int32)).toNatClampNeg)) (fun v33 : Int32 => lb_chk (lb_ix (f_X9_ofP x1 (0 : Int32)) 61) (lb_let (lb_sto σ 54 (f_X9_ofP x1 (0 : Int32)).toNatClampNeg x2) (fun s44 : lb_Mem => some (v33, s44)))))) = some qr := h
  skip
  refine lv_aload_n hx hb dX9_likes_0 rfl (lv_at hl 0 rfl) ?_
  refine lv_iload_n hx hb dX9_likes_1 rfl (lv_at hl 1 rfl) ?_
  refine rc_X9_95 X hW x1 ⟨⟨rfl, rfl⟩, Nat.le_of_ble_eq_true rfl, Nat.le_of_ble_eq_true rfl⟩ hl.1 (Nat.le_of_ble_eq_true rfl) dX9_likes_2 ⟨Nat.zero_le _, Nat.zero_le _⟩ (fun H locs hW => ?_)
  refine lv_if_eq (tgt := 17) hx hb dX9_likes_5 (by decide) (fun c5 => ?_) (fun c5 => ?_)
  · have h := (if_pos c5).symm.trans h
    exact w_X9_likes_17 X σ _ _ _ h hW (lv_sub hl [0] rfl)
  · have h := (if_neg c5).symm.trans h
    refine lv_iload_n hx hb dX9_likes_8 rfl (lv_at hl 2 rfl) ?_
    refine lv_iconst (v := 0) hx hb dX9_likes_9 rfl ?_
    refine lv_iconst (v := 5) hx hb dX9_likes_10 rfl ?_
    refine rc_X9_41 X hW x2 (0 : Int32) (5 : Int32) ⟨⟨rfl, rfl⟩, Nat.le_of_ble_eq_true rfl, Nat.le_of_ble_eq_true rfl⟩ hl.1 (Nat.le_of_ble_eq_true rfl) dX9_likes_11 ⟨Nat.zero_le _, Nat.zero_le _⟩ (fun H locs hW => ?_)
    refine lv_if_ne (tgt := 23) hx hb dX9_likes_14 (by decide) (fun c14 => ?_) (fun c14 => ?_)
    · have h := (if_neg c14).symm.trans h
      refine lv_aload_n hx hb dX9_likes_23 rfl (lv_at hl 0 rfl) ?_
      refine rg_X9_9 X hW dX9_likes_24 ?_
      refine lv_iload_n hx hb dX9_likes_27 rfl (lv_at hl 1 rfl) ?_
      refine lv_iconst (v := 0) hx hb dX9_likes_28 rfl ?_
      refine rc_X9_52 X hW x1 (0 : Int32) ⟨⟨rfl, rfl⟩, Nat.le_of_ble_eq_true rfl, Nat.le_of_ble_eq_true rfl⟩ hl.1 (Nat.le_of_ble_eq_true rfl) dX9_likes_29 ⟨Nat.zero_le _, Nat.zero_le _⟩ (fun H locs hW => ?_)
      obtain ⟨i32, h⟩ := lb_chk_in h
      refine lb_ild X hW (show lb_ar 54 = 60 + 1 from rfl) i32 dX9_likes_32 ?_
      refine lv_topi (fun v33 e33 => ?_)
      have h := lb_letI e33 h
      refine lv_istore_n (lv' := [(3, .int v33), (0, .ref (lb_ad G 53)), (1, .int x1), (2, .int x2)]) hx hb dX9_likes_33 rfl hl (by decide) rfl (fun ls hl => ?_)
      refine lv_aload_n hx hb dX9_likes_34 rfl (lv_at hl 1 rfl) ?_
      refine rg_X9_9 X hW dX9_likes_35 ?_
      refine lv_iload_n hx hb dX9_likes_38 rfl (lv_at hl 2 rfl) ?_
      refine lv_iconst (v := 0) hx hb dX9_likes_39 rfl ?_
      refine rc_X9_52 X hW x1 (0 : Int32) ⟨⟨rfl, rfl⟩, Nat.le_of_ble_eq_true rfl, Nat.le_of_ble_eq_true rfl⟩ hl.1 (Nat.le_of_ble_eq_true rfl) dX9_likes_40 ⟨Nat.zero_le _, Nat.zero_le _⟩ (fun H locs hW => ?_)
      refine lv_iload_n hx hb dX9_likes_43 rfl (lv_at hl 3 rfl) ?_
      obtain ⟨i44, h⟩ := lb_chk_in h
      refine lb_ist X hW (show lb_ar 54 = 60 + 1 from rfl) i44 dX9_likes_44 (fun H locs hW => ?_)
      obtain ⟨s44, e44⟩ : ∃ z, z = lb_sto σ 54 (f_X9_ofP x1 (0 : Int32)).toNatClampNeg x2 := ⟨_, rfl⟩
      rw [← e44] at hW
      have h := lb_letI e44 h
      refine lv_iload_n hx hb dX9_likes_45 rfl (lv_at hl 0 rfl) ?_
      obtain rfl := Option.some.inj h
      exact lb_iret X hW dX9_likes_46
    · have h := (if_pos c14).symm.trans h
      exact w_X9_likes_17 X σ _ _ _ h hW (lv_sub hl [0] rfl)
abbrev rmX9_wrongBy : Room := { frames := 0, cells := 0, slots := 0, locals := 0 }
def f_X9_wrongBy (x0 : Int32) (x1 : Int32) (x2 : Int32) : Int32 := if x1 ≤ x0 then if x0 ≤ x2 then (0 : Int32) else (-6 : Int32) else (-4 : Int32)
set_option maxRecDepth 20000 in
set_option maxHeartbeats 4000000 in
theorem m_X9_wrongBy (l : Launch) (G : lb_G) (σ : lb_Mem) (x0 : Int32) (x1 : Int32) (x2 : Int32) (qr : Int32) (h : f_X9_wrongBy x0 x1 x2 = qr) : lb_M l yX9_wrongBy cX9_wrongBy 3 (some .int) rmX9_wrongBy [.int x0, .int x1, .int x2] G σ (lb_QI G qr σ) := by
  refine lb_start RX9 (by decide +kernel) rfl (Nat.le_of_ble_eq_true rfl) (fun p e s m below meth c X hW ls hl => ?_)
  have hx := X.1
  have hb := X.2.1
  have hl : lv_has ls 3 [(0, .int x0), (1, .int x1), (2, .int x2)] := hl
  have h : (if x1 ≤ x0 then if x0 ≤ x2 then (0 : Int32) else (-6 : Int32) else (-4 : Int32)) = qr := h
  skip
  refine lv_iload_n hx hb dX9_wrongBy_0 rfl (lv_at hl 0 rfl) ?_
  refine lv_iload_n hx hb dX9_wrongBy_1 rfl (lv_at hl 1 rfl) ?_
  refine lv_icmp_ge (tgt := 10) hx hb dX9_wrongBy_2 (by decide) (fun c2 => ?_) (fun c2 => ?_)
  · have h := (if_pos c2).symm.trans h
    refine lv_iload_n hx hb dX9_wrongBy_10 rfl (lv_at hl 0 rfl) ?_
    refine lv_iload_n hx hb dX9_wrongBy_11 rfl (lv_at hl 2 rfl) ?_
    refine lv_icmp_le (tgt := 20) hx hb dX9_wrongBy_12 (by decide) (fun c12 => ?_) (fun c12 => ?_)
    · have h := (if_pos c12).symm.trans h
      refine lv_iconst (v := 0) hx hb dX9_wrongBy_20 rfl ?_
      subst h
      exact lb_iret X hW dX9_wrongBy_21
    · have h := (if_neg c12).symm.trans h
      refine lv_bipush (v := -6) hx hb dX9_wrongBy_15 rfl ?_
      refine lv_goto (tgt := 21) hx hb dX9_wrongBy_17 (by decide) ?_
      subst h
      exact lb_iret X hW dX9_wrongBy_21
  · have h := (if_neg c2).symm.trans h
    refine lv_bipush (v := -4) hx hb dX9_wrongBy_5 rfl ?_
    refine lv_goto (tgt := 21) hx hb dX9_wrongBy_7 (by decide) ?_
    subst h
    exact lb_iret X hW dX9_wrongBy_21
theorem rc_X9_125 {p : Program} {l : Launch} {e : Env} {R : Room} {s : State} {m : MethodId} {args : Array Value} {below : List Frame} {meth : Method} {c : Code} {H : Heap} {locs : List Loc} {cells slots : Nat} {Q : State → Prop} {cc : ByteArray} {pc nL : Nat} {ls : Array Slot} {rest : List Value} {G : lb_G} {σ : lb_Mem} {ret : Option FieldType} (X : lb_C G p s m args meth c cc nL RX9 ret) (hW : lb_W G s σ H locs) (x0 : Int32) (x1 : Int32) (x2 : Int32) (hR : lb_room rmX9_wrongBy R 3) (hls : ls.size = nL) (hrest : (rest.map fun v => v.category).sum ≤ 8) (d : decode cc pc = .ok (.invokestatic 125, 3)) (hcap : cells ≤ R.cells ∧ slots ≤ R.slots) (kk : ∀ (H1 : Heap) (locs1 : List Loc), lb_W G s σ H1 locs1 → W p l e R s m args below meth c H1 locs1 cells slots Q (F0 m (pc + 3) ls (.int (f_X9_wrongBy x0 x1 x2) :: rest))) : W p l e R s m args below meth c H locs cells slots Q (F0 m pc ls (.int x2 :: .int x1 :: .int x0 :: rest)) :=
  lb_goI hW (lb_runS (As := [.int x0, .int x1, .int x2]) X hW (m_X9_wrongBy l G σ x0 x1 x2 _ rfl) (n := 3) ⟨qw_923, qw_52, qw_925, by decide +kernel⟩ hR qw_924 rfl hls hrest d hcap) kk
abbrev rmX9_fills : Room := { frames := 2, cells := 0, slots := 0, locals := 43 }
def f_X9_fills_19 (x1 : Int32) (x2 : Int32) (σ : lb_Mem) (y0 : Int32) : Option (Int32 × lb_Mem) := if y0 = 0 then lb_chk (lb_ix (f_X9_ofT x1 (4 : Int32)) 61) (lb_let ((σ 54 (f_X9_ofT x1 (4 : Int32)).toNatClampNeg)) (fun v40 : Int32 => lb_chk (lb_ix (f_X9_ofT x1 (4 : Int32)) 61) (lb_let (lb_sto σ 54 (f_X9_ofT x1 (4 : Int32)).toNatClampNeg x2) (fun s52 : lb_Mem => some (v40, s52))))) else (f_X9_no y0 σ).bind (fun q26 => some (q26.1, q26.2))
set_option maxRecDepth 20000 in
set_option maxHeartbeats 4000000 in
theorem w_X9_fills_19 {p : Program} {l : Launch} {e : Env} {s : State} {m : MethodId} {args : Array Value} {below : List Frame} {meth : Method} {c : Code} {G : lb_G} {qr : (Int32 × lb_Mem)} (X : lb_C G p s m args meth c cX9_fills 5 RX9 (some .int)) : ∀ (x1 : Int32) (x2 : Int32) (σ : lb_Mem) (y0 : Int32) (H : Heap) (locs : List Loc) (ls : Array Slot), f_X9_fills_19 x1 x2 σ y0 = some qr → lb_W G s σ H locs → lv_has ls 5 [(0, .ref (lb_ad G 53)), (1, .int x1), (2, .int x2)] → W p l e rmX9_fills s m args below meth c H locs 0 0 (MQ below (lb_QI G qr.1 qr.2) args s 0 0 (lb_A G)) (F0 m 19 ls [.int y0]) := by
  have hx := X.1
  have hb := X.2.1
  intro x1 x2 σ y0 H locs ls h hW hl
  have h : (if y0 = 0 then lb_chk (lb_ix (f_X9_ofT x1 (4 : Int32)) 61) (lb_let ((σ 54 (f_X9_ofT x1 (4 : Int32)).toNatClampNeg)) (fun v40 : Int32 => lb_chk (lb_ix (f_X9_ofT x1 (4 : Int32)) 61) (lb_let (lb_sto σ 54 (f_X9_ofT x1 (4 : Int32)).toNatClampNeg x2) (fun s52 : lb_Mem => some (v40, s52))))) else (f_X9_no y0 σ).bind (fun q26 => some (q26.1, q26.2))) = some qr := h
  refine lv_istore_n (lv' := [(3, .int y0), (0, .ref (lb_ad G 53)), (1, .int x1), (2, .int x2)]) hx hb dX9_fills_19 rfl hl (by decide) rfl (fun ls hl => ?_)
  refine lv_iload_n hx hb dX9_fills_20 rfl (lv_at hl 0 rfl) ?_
  refine lv_if_eq (tgt := 30) hx hb dX9_fills_21 (by decide) (fun c21 => ?_) (fun c21 => ?_)
  · have h := (if_pos c21).symm.trans h
    refine lv_aload_n hx hb dX9_fills_30 rfl (lv_at hl 1 rfl) ?_
    refine rg_X9_9 X hW dX9_fills_31 ?_
    refine lv_iload_n hx hb dX9_fills_34 rfl (lv_at hl 2 rfl) ?_
    refine lv_iconst (v := 4) hx hb dX9_fills_35 rfl ?_
    refine rc_X9_45 X hW x1 (4 : Int32) ⟨⟨rfl, rfl⟩, Nat.le_of_ble_eq_true rfl, Nat.le_of_ble_eq_true rfl⟩ hl.1 (Nat.le_of_ble_eq_true rfl) dX9_fills_36 ⟨Nat.zero_le _, Nat.zero_le _⟩ (fun H locs hW => ?_)
    obtain ⟨i39, h⟩ := lb_chk_in h
    refine lb_ild X hW (show lb_ar 54 = 60 + 1 from rfl) i39 dX9_fills_39 ?_
    refine lv_topi (fun v40 e40 => ?_)
    have h := lb_letI e40 h
    refine lv_istore (lv' := [(4, .int v40), (3, .int y0), (0, .ref (lb_ad G 53)), (1, .int x1), (2, .int x2)]) hx hb dX9_fills_40 hl (by decide) rfl (fun ls hl => ?_)
    refine lv_aload_n hx hb dX9_fills_42 rfl (lv_at hl 2 rfl) ?_
    refine rg_X9_9 X hW dX9_fills_43 ?_
    refine lv_iload_n hx hb dX9_fills_46 rfl (lv_at hl 3 rfl) ?_
    refine lv_iconst (v := 4) hx hb dX9_fills_47 rfl ?_
    refine rc_X9_45 X hW x1 (4 : Int32) ⟨⟨rfl, rfl⟩, Nat.le_of_ble_eq_true rfl, Nat.le_of_ble_eq_true rfl⟩ hl.1 (Nat.le_of_ble_eq_true rfl) dX9_fills_48 ⟨Nat.zero_le _, Nat.zero_le _⟩ (fun H locs hW => ?_)
    refine lv_iload_n hx hb dX9_fills_51 rfl (lv_at hl 4 rfl) ?_
    obtain ⟨i52, h⟩ := lb_chk_in h
    refine lb_ist X hW (show lb_ar 54 = 60 + 1 from rfl) i52 dX9_fills_52 (fun H locs hW => ?_)
    obtain ⟨s52, e52⟩ : ∃ z, z = lb_sto σ 54 (f_X9_ofT x1 (4 : Int32)).toNatClampNeg x2 := ⟨_, rfl⟩
    rw [← e52] at hW
    have h := lb_letI e52 h
    refine lv_iload hx hb dX9_fills_53 (lv_at hl 0 rfl) ?_
    obtain rfl := Option.some.inj h
    exact lb_iret X hW dX9_fills_55
  · have h := (if_neg c21).symm.trans h
    refine lv_aload_n hx hb dX9_fills_24 rfl (lv_at hl 1 rfl) ?_
    refine lv_iload_n hx hb dX9_fills_25 rfl (lv_at hl 0 rfl) ?_
    obtain ⟨q26, e26, h⟩ := lb_bind h
    refine rc_X9_35 X hW e26 ⟨⟨rfl, rfl⟩, Nat.le_of_ble_eq_true rfl, Nat.le_of_ble_eq_true rfl⟩ hl.1 (Nat.le_of_ble_eq_true rfl) dX9_fills_26 ⟨Nat.zero_le _, Nat.zero_le _⟩ (fun H locs hW => ?_)
    obtain rfl := Option.some.inj h
    exact lb_iret X hW dX9_fills_29
def f_X9_fills (x1 : Int32) (x2 : Int32) (σ : lb_Mem) : Option (Int32 × lb_Mem) := if (f_X9_isPot σ x1) = 0 then f_X9_fills_19 x1 x2 σ (-1 : Int32) else f_X9_fills_19 x1 x2 σ (f_X9_wrongBy x2 (0 : Int32) (9 : Int32))
set_option maxRecDepth 20000 in
set_option maxHeartbeats 4000000 in
theorem m_X9_fills (l : Launch) (G : lb_G) (σ : lb_Mem) (x1 : Int32) (x2 : Int32) (qr : (Int32 × lb_Mem)) (h : f_X9_fills x1 x2 σ = some qr) : lb_M l yX9_fills cX9_fills 5 (some .int) rmX9_fills [.ref (lb_ad G 53), .int x1, .int x2] G σ (lb_QI G qr.1 qr.2) := by
  refine lb_start RX9 (by decide +kernel) rfl (Nat.le_of_ble_eq_true rfl) (fun p e s m below meth c X hW ls hl => ?_)
  have hx := X.1
  have hb := X.2.1
  have hl : lv_has ls 5 [(0, .ref (lb_ad G 53)), (1, .int x1), (2, .int x2)] := hl
  have h : (if (f_X9_isPot σ x1) = 0 then f_X9_fills_19 x1 x2 σ (-1 : Int32) else f_X9_fills_19 x1 x2 σ (f_X9_wrongBy x2 (0 : Int32) (9 : Int32))) = some qr := h
  skip
  refine lv_aload_n hx hb dX9_fills_0 rfl (lv_at hl 0 rfl) ?_
  refine lv_iload_n hx hb dX9_fills_1 rfl (lv_at hl 1 rfl) ?_
  refine rc_X9_102 X hW x1 ⟨⟨rfl, rfl⟩, Nat.le_of_ble_eq_true rfl, Nat.le_of_ble_eq_true rfl⟩ hl.1 (Nat.le_of_ble_eq_true rfl) dX9_fills_2 ⟨Nat.zero_le _, Nat.zero_le _⟩ (fun H locs hW => ?_)
  refine lv_if_eq (tgt := 18) hx hb dX9_fills_5 (by decide) (fun c5 => ?_) (fun c5 => ?_)
  · have h := (if_pos c5).symm.trans h
    refine lv_iconst (v := -1) hx hb dX9_fills_18 rfl ?_
    exact w_X9_fills_19 X x1 x2 σ (-1 : Int32) _ _ _ h hW (lv_sub hl [0, 1, 2] rfl)
  · have h := (if_neg c5).symm.trans h
    refine lv_iload_n hx hb dX9_fills_8 rfl (lv_at hl 2 rfl) ?_
    refine lv_iconst (v := 0) hx hb dX9_fills_9 rfl ?_
    refine lv_bipush (v := 9) hx hb dX9_fills_10 rfl ?_
    refine rc_X9_125 X hW x2 (0 : Int32) (9 : Int32) ⟨⟨rfl, rfl⟩, Nat.le_of_ble_eq_true rfl, Nat.le_of_ble_eq_true rfl⟩ hl.1 (Nat.le_of_ble_eq_true rfl) dX9_fills_12 ⟨Nat.zero_le _, Nat.zero_le _⟩ (fun H locs hW => ?_)
    refine lv_goto (tgt := 19) hx hb dX9_fills_15 (by decide) ?_
    exact w_X9_fills_19 X x1 x2 σ (f_X9_wrongBy x2 (0 : Int32) (9 : Int32)) _ _ _ h hW (lv_sub hl [0, 1, 2] rfl)
abbrev rmX9_turn : Room := { frames := 2, cells := 0, slots := 0, locals := 43 }
def f_X9_turn_33 (x1 : Int32) (x2 : Int32) (x3 : Int32) (σ : lb_Mem) (y0 : Int32) : Option (Int32 × lb_Mem) := if y0 = 0 then lb_chk (lb_ix (f_X9_ofT x1 (0 : Int32)) 61) (lb_chk (lb_ix (f_X9_ofT x1 (1 : Int32)) 61) (lb_let ((((10 : Int32) * (σ 54 (f_X9_ofT x1 (0 : Int32)).toNatClampNeg)) + (σ 54 (f_X9_ofT x1 (1 : Int32)).toNatClampNeg))) (fun v71 : Int32 => lb_chk (lb_ix (f_X9_ofT x1 (0 : Int32)) 61) (lb_let (lb_sto σ 54 (f_X9_ofT x1 (0 : Int32)).toNatClampNeg x2) (fun s83 : lb_Mem => lb_chk (lb_ix (f_X9_ofT x1 (1 : Int32)) 61) (lb_let (lb_sto s83 54 (f_X9_ofT x1 (1 : Int32)).toNatClampNeg x3) (fun s94 : lb_Mem => some (v71, s94)))))))) else (f_X9_no y0 σ).bind (fun q43 => some (q43.1, q43.2))
set_option maxRecDepth 20000 in
set_option maxHeartbeats 4000000 in
theorem w_X9_turn_33 {p : Program} {l : Launch} {e : Env} {s : State} {m : MethodId} {args : Array Value} {below : List Frame} {meth : Method} {c : Code} {G : lb_G} {qr : (Int32 × lb_Mem)} (X : lb_C G p s m args meth c cX9_turn 6 RX9 (some .int)) : ∀ (x1 : Int32) (x2 : Int32) (x3 : Int32) (σ : lb_Mem) (y0 : Int32) (H : Heap) (locs : List Loc) (ls : Array Slot), f_X9_turn_33 x1 x2 x3 σ y0 = some qr → lb_W G s σ H locs → lv_has ls 6 [(0, .ref (lb_ad G 53)), (1, .int x1), (2, .int x2), (3, .int x3)] → W p l e rmX9_turn s m args below meth c H locs 0 0 (MQ below (lb_QI G qr.1 qr.2) args s 0 0 (lb_A G)) (F0 m 33 ls [.int y0]) := by
  have hx := X.1
  have hb := X.2.1
  intro x1 x2 x3 σ y0 H locs ls h hW hl
  have h : (if y0 = 0 then lb_chk (lb_ix (f_X9_ofT x1 (0 : Int32)) 61) (lb_chk (lb_ix (f_X9_ofT x1 (1 : Int32)) 61) (lb_let ((((10 : Int32) * (σ 54 (f_X9_ofT x1 (0 : Int32)).toNatClampNeg)) + (σ 54 (f_X9_ofT x1 (1 : Int32)).toNatClampNeg))) (fun v71 : Int32 => lb_chk (lb_ix (f_X9_ofT x1 (0 : Int32)) 61) (lb_let (lb_sto σ 54 (f_X9_ofT x1 (0 : Int32)).toNatClampNeg x2) (fun s83 : lb_Mem => lb_chk (lb_ix (f_X9_ofT x1 (1 : Int32)) 61) (lb_let (lb_sto s83 54 (f_X9_ofT x1 (1 : Int32)).toNatClampNeg x3) (fun s94 : lb_Mem => some (v71, s94)))))))) else (f_X9_no y0 σ).bind (fun q43 => some (q43.1, q43.2))) = some qr := h
  refine lv_istore (lv' := [(4, .int y0), (0, .ref (lb_ad G 53)), (1, .int x1), (2, .int x2), (3, .int x3)]) hx hb dX9_turn_33 hl (by decide) rfl (fun ls hl => ?_)
  refine lv_iload hx hb dX9_turn_35 (lv_at hl 0 rfl) ?_
  refine lv_if_eq (tgt := 47) hx hb dX9_turn_37 (by decide) (fun c37 => ?_) (fun c37 => ?_)
  · have h := (if_pos c37).symm.trans h
    refine lv_bipush (v := 10) hx hb dX9_turn_47 rfl ?_
    refine lv_aload_n hx hb dX9_turn_49 rfl (lv_at hl 1 rfl) ?_
    refine rg_X9_9 X hW dX9_turn_50 ?_
    refine lv_iload_n hx hb dX9_turn_53 rfl (lv_at hl 2 rfl) ?_
    refine lv_iconst (v := 0) hx hb dX9_turn_54 rfl ?_
    refine rc_X9_45 X hW x1 (0 : Int32) ⟨⟨rfl, rfl⟩, Nat.le_of_ble_eq_true rfl, Nat.le_of_ble_eq_true rfl⟩ hl.1 (Nat.le_of_ble_eq_true rfl) dX9_turn_55 ⟨Nat.zero_le _, Nat.zero_le _⟩ (fun H locs hW => ?_)
    obtain ⟨i58, h⟩ := lb_chk_in h
    refine lb_ild X hW (show lb_ar 54 = 60 + 1 from rfl) i58 dX9_turn_58 ?_
    refine lv_imul hx hb dX9_turn_59 ?_
    refine lv_aload_n hx hb dX9_turn_60 rfl (lv_at hl 1 rfl) ?_
    refine rg_X9_9 X hW dX9_turn_61 ?_
    refine lv_iload_n hx hb dX9_turn_64 rfl (lv_at hl 2 rfl) ?_
    refine lv_iconst (v := 1) hx hb dX9_turn_65 rfl ?_
    refine rc_X9_45 X hW x1 (1 : Int32) ⟨⟨rfl, rfl⟩, Nat.le_of_ble_eq_true rfl, Nat.le_of_ble_eq_true rfl⟩ hl.1 (Nat.le_of_ble_eq_true rfl) dX9_turn_66 ⟨Nat.zero_le _, Nat.zero_le _⟩ (fun H locs hW => ?_)
    obtain ⟨i69, h⟩ := lb_chk_in h
    refine lb_ild X hW (show lb_ar 54 = 60 + 1 from rfl) i69 dX9_turn_69 ?_
    refine lv_iadd hx hb dX9_turn_70 ?_
    refine lv_topi (fun v71 e71 => ?_)
    have h := lb_letI e71 h
    refine lv_istore (lv' := [(5, .int v71), (4, .int y0), (0, .ref (lb_ad G 53)), (1, .int x1), (2, .int x2), (3, .int x3)]) hx hb dX9_turn_71 hl (by decide) rfl (fun ls hl => ?_)
    refine lv_aload_n hx hb dX9_turn_73 rfl (lv_at hl 2 rfl) ?_
    refine rg_X9_9 X hW dX9_turn_74 ?_
    refine lv_iload_n hx hb dX9_turn_77 rfl (lv_at hl 3 rfl) ?_
    refine lv_iconst (v := 0) hx hb dX9_turn_78 rfl ?_
    refine rc_X9_45 X hW x1 (0 : Int32) ⟨⟨rfl, rfl⟩, Nat.le_of_ble_eq_true rfl, Nat.le_of_ble_eq_true rfl⟩ hl.1 (Nat.le_of_ble_eq_true rfl) dX9_turn_79 ⟨Nat.zero_le _, Nat.zero_le _⟩ (fun H locs hW => ?_)
    refine lv_iload_n hx hb dX9_turn_82 rfl (lv_at hl 4 rfl) ?_
    obtain ⟨i83, h⟩ := lb_chk_in h
    refine lb_ist X hW (show lb_ar 54 = 60 + 1 from rfl) i83 dX9_turn_83 (fun H locs hW => ?_)
    obtain ⟨s83, e83⟩ : ∃ z, z = lb_sto σ 54 (f_X9_ofT x1 (0 : Int32)).toNatClampNeg x2 := ⟨_, rfl⟩
    rw [← e83] at hW
    have h := lb_letI e83 h
    refine lv_aload_n hx hb dX9_turn_84 rfl (lv_at hl 2 rfl) ?_
    refine rg_X9_9 X hW dX9_turn_85 ?_
    refine lv_iload_n hx hb dX9_turn_88 rfl (lv_at hl 3 rfl) ?_
    refine lv_iconst (v := 1) hx hb dX9_turn_89 rfl ?_
    refine rc_X9_45 X hW x1 (1 : Int32) ⟨⟨rfl, rfl⟩, Nat.le_of_ble_eq_true rfl, Nat.le_of_ble_eq_true rfl⟩ hl.1 (Nat.le_of_ble_eq_true rfl) dX9_turn_90 ⟨Nat.zero_le _, Nat.zero_le _⟩ (fun H locs hW => ?_)
    refine lv_iload_n hx hb dX9_turn_93 rfl (lv_at hl 5 rfl) ?_
    obtain ⟨i94, h⟩ := lb_chk_in h
    refine lb_ist X hW (show lb_ar 54 = 60 + 1 from rfl) i94 dX9_turn_94 (fun H locs hW => ?_)
    obtain ⟨s94, e94⟩ : ∃ z, z = lb_sto s83 54 (f_X9_ofT x1 (1 : Int32)).toNatClampNeg x3 := ⟨_, rfl⟩
    rw [← e94] at hW
    have h := lb_letI e94 h
    refine lv_iload hx hb dX9_turn_95 (lv_at hl 0 rfl) ?_
    obtain rfl := Option.some.inj h
    exact lb_iret X hW dX9_turn_97
  · have h := (if_neg c37).symm.trans h
    refine lv_aload_n hx hb dX9_turn_40 rfl (lv_at hl 1 rfl) ?_
    refine lv_iload hx hb dX9_turn_41 (lv_at hl 0 rfl) ?_
    obtain ⟨q43, e43, h⟩ := lb_bind h
    refine rc_X9_35 X hW e43 ⟨⟨rfl, rfl⟩, Nat.le_of_ble_eq_true rfl, Nat.le_of_ble_eq_true rfl⟩ hl.1 (Nat.le_of_ble_eq_true rfl) dX9_turn_43 ⟨Nat.zero_le _, Nat.zero_le _⟩ (fun H locs hW => ?_)
    obtain rfl := Option.some.inj h
    exact lb_iret X hW dX9_turn_46
def f_X9_turn (x1 : Int32) (x2 : Int32) (x3 : Int32) (σ : lb_Mem) : Option (Int32 × lb_Mem) := if (f_X9_isPot σ x1) = 0 then f_X9_turn_33 x1 x2 x3 σ (-1 : Int32) else if (f_X9_isIn x2 (0 : Int32) (5 : Int32)) = 0 then f_X9_turn_33 x1 x2 x3 σ (-2 : Int32) else f_X9_turn_33 x1 x2 x3 σ (f_X9_wrongBy x3 (0 : Int32) (9 : Int32))
set_option maxRecDepth 20000 in
set_option maxHeartbeats 4000000 in
theorem m_X9_turn (l : Launch) (G : lb_G) (σ : lb_Mem) (x1 : Int32) (x2 : Int32) (x3 : Int32) (qr : (Int32 × lb_Mem)) (h : f_X9_turn x1 x2 x3 σ = some qr) : lb_M l yX9_turn cX9_turn 6 (some .int) rmX9_turn [.ref (lb_ad G 53), .int x1, .int x2, .int x3] G σ (lb_QI G qr.1 qr.2) := by
  refine lb_start RX9 (by decide +kernel) rfl (Nat.le_of_ble_eq_true rfl) (fun p e s m below meth c X hW ls hl => ?_)
  have hx := X.1
  have hb := X.2.1
  have hl : lv_has ls 6 [(0, .ref (lb_ad G 53)), (1, .int x1), (2, .int x2), (3, .int x3)] := hl
  have h : (if (f_X9_isPot σ x1) = 0 then f_X9_turn_33 x1 x2 x3 σ (-1 : Int32) else if (f_X9_isIn x2 (0 : Int32) (5 : Int32)) = 0 then f_X9_turn_33 x1 x2 x3 σ (-2 : Int32) else f_X9_turn_33 x1 x2 x3 σ (f_X9_wrongBy x3 (0 : Int32) (9 : Int32))) = some qr := h
  skip
  refine lv_aload_n hx hb dX9_turn_0 rfl (lv_at hl 0 rfl) ?_
  refine lv_iload_n hx hb dX9_turn_1 rfl (lv_at hl 1 rfl) ?_
  refine rc_X9_102 X hW x1 ⟨⟨rfl, rfl⟩, Nat.le_of_ble_eq_true rfl, Nat.le_of_ble_eq_true rfl⟩ hl.1 (Nat.le_of_ble_eq_true rfl) dX9_turn_2 ⟨Nat.zero_le _, Nat.zero_le _⟩ (fun H locs hW => ?_)
  refine lv_if_ne (tgt := 12) hx hb dX9_turn_5 (by decide) (fun c5 => ?_) (fun c5 => ?_)
  · have h := (if_neg c5).symm.trans h
    refine lv_iload_n hx hb dX9_turn_12 rfl (lv_at hl 2 rfl) ?_
    refine lv_iconst (v := 0) hx hb dX9_turn_13 rfl ?_
    refine lv_iconst (v := 5) hx hb dX9_turn_14 rfl ?_
    refine rc_X9_41 X hW x2 (0 : Int32) (5 : Int32) ⟨⟨rfl, rfl⟩, Nat.le_of_ble_eq_true rfl, Nat.le_of_ble_eq_true rfl⟩ hl.1 (Nat.le_of_ble_eq_true rfl) dX9_turn_15 ⟨Nat.zero_le _, Nat.zero_le _⟩ (fun H locs hW => ?_)
    refine lv_if_ne (tgt := 26) hx hb dX9_turn_18 (by decide) (fun c18 => ?_) (fun c18 => ?_)
    · have h := (if_neg c18).symm.trans h
      refine lv_iload_n hx hb dX9_turn_26 rfl (lv_at hl 3 rfl) ?_
      refine lv_iconst (v := 0) hx hb dX9_turn_27 rfl ?_
      refine lv_bipush (v := 9) hx hb dX9_turn_28 rfl ?_
      refine rc_X9_125 X hW x3 (0 : Int32) (9 : Int32) ⟨⟨rfl, rfl⟩, Nat.le_of_ble_eq_true rfl, Nat.le_of_ble_eq_true rfl⟩ hl.1 (Nat.le_of_ble_eq_true rfl) dX9_turn_30 ⟨Nat.zero_le _, Nat.zero_le _⟩ (fun H locs hW => ?_)
      exact w_X9_turn_33 X x1 x2 x3 σ (f_X9_wrongBy x3 (0 : Int32) (9 : Int32)) _ _ _ h hW (lv_sub hl [0, 1, 2, 3] rfl)
    · have h := (if_pos c18).symm.trans h
      refine lv_bipush (v := -2) hx hb dX9_turn_21 rfl ?_
      refine lv_goto (tgt := 33) hx hb dX9_turn_23 (by decide) ?_
      exact w_X9_turn_33 X x1 x2 x3 σ (-2 : Int32) _ _ _ h hW (lv_sub hl [0, 1, 2, 3] rfl)
  · have h := (if_pos c5).symm.trans h
    refine lv_iconst (v := -1) hx hb dX9_turn_8 rfl ?_
    refine lv_goto (tgt := 33) hx hb dX9_turn_9 (by decide) ?_
    exact w_X9_turn_33 X x1 x2 x3 σ (-1 : Int32) _ _ _ h hW (lv_sub hl [0, 1, 2, 3] rfl)
theorem rc_X9_129 {p : Program} {l : Launch} {e : Env} {R : Room} {s : State} {m : MethodId} {args : Array Value} {below : List Frame} {meth : Method} {c : Code} {H : Heap} {locs : List Loc} {cells slots : Nat} {Q : State → Prop} {cc : ByteArray} {pc nL : Nat} {ls : Array Slot} {rest : List Value} {G : lb_G} {σ : lb_Mem} {ret : Option FieldType} (X : lb_C G p s m args meth c cc nL RX9 ret) (hW : lb_W G s σ H locs) {k0 : Nat} (hk0 : lb_ar k0 = 60 + 1) {qr : Int32} (h : f_X9_allGrace σ k0 = some qr) (hR : lb_room rmX9_allGrace R 3) (hls : ls.size = nL) (hrest : (rest.map fun v => v.category).sum ≤ 8) (d : decode cc pc = .ok (.invokestatic 129, 3)) (hcap : cells ≤ R.cells ∧ slots ≤ R.slots) (kk : ∀ (H1 : Heap) (locs1 : List Loc), lb_W G s σ H1 locs1 → W p l e R s m args below meth c H1 locs1 cells slots Q (F0 m (pc + 3) ls (.int qr :: rest))) : W p l e R s m args below meth c H locs cells slots Q (F0 m pc ls (.ref (lb_ad G k0) :: rest)) :=
  lb_goI hW (lb_runS (As := [.ref (lb_ad G k0)]) X hW (m_X9_allGrace l G σ hk0 qr h) (n := 1) ⟨qw_934, qw_52, qw_936, by decide +kernel⟩ hR qw_935 rfl hls hrest d hcap) kk
abbrev rmX9_years : Room := { frames := 5, cells := 0, slots := 0, locals := 111 }
def f_X9_years_32 (σ : lb_Mem) : Option (Int32 × lb_Mem) := (f_X9_no (-6 : Int32) σ).bind (fun q35 => some (q35.1, q35.2))
set_option maxRecDepth 20000 in
set_option maxHeartbeats 4000000 in
theorem w_X9_years_32 {p : Program} {l : Launch} {e : Env} {s : State} {m : MethodId} {args : Array Value} {below : List Frame} {meth : Method} {c : Code} {G : lb_G} {qr : (Int32 × lb_Mem)} (X : lb_C G p s m args meth c cX9_years 2 RX9 (some .int)) : ∀ (σ : lb_Mem) (H : Heap) (locs : List Loc) (ls : Array Slot), f_X9_years_32 σ = some qr → lb_W G s σ H locs → lv_has ls 2 [(0, .ref (lb_ad G 53))] → W p l e rmX9_years s m args below meth c H locs 0 0 (MQ below (lb_QI G qr.1 qr.2) args s 0 0 (lb_A G)) (F0 m 32 ls []) := by
  have hx := X.1
  have hb := X.2.1
  intro σ H locs ls h hW hl
  have h : ((f_X9_no (-6 : Int32) σ).bind (fun q35 => some (q35.1, q35.2))) = some qr := h
  refine lv_aload_n hx hb dX9_years_32 rfl (lv_at hl 0 rfl) ?_
  refine lv_bipush (v := -6) hx hb dX9_years_33 rfl ?_
  obtain ⟨q35, e35, h⟩ := lb_bind h
  refine rc_X9_35 X hW e35 ⟨⟨rfl, rfl⟩, Nat.le_of_ble_eq_true rfl, Nat.le_of_ble_eq_true rfl⟩ hl.1 (Nat.le_of_ble_eq_true rfl) dX9_years_35 ⟨Nat.zero_le _, Nat.zero_le _⟩ (fun H locs hW => ?_)
  obtain rfl := Option.some.inj h
  exact lb_iret X hW dX9_years_38
def f_X9_years (x1 : Int32) (σ : lb_Mem) : Option (Int32 × lb_Mem) := if (1 : Int32) ≤ x1 then if (60 : Int32) < x1 then f_X9_years_32 σ else if ((σ 54 (2 : Int32).toNatClampNeg) + x1) ≤ (999 : Int32) then (f_X9_yearsOn 54 x1 σ).bind (fun s44 => (f_X9_allGrace s44 54).bind (fun q51 => some (q51, s44))) else f_X9_years_32 σ else (f_X9_no (-4 : Int32) σ).bind (fun q8 => some (q8.1, q8.2))
set_option maxRecDepth 20000 in
set_option maxHeartbeats 4000000 in
theorem m_X9_years (l : Launch) (G : lb_G) (σ : lb_Mem) (x1 : Int32) (qr : (Int32 × lb_Mem)) (h : f_X9_years x1 σ = some qr) : lb_M l yX9_years cX9_years 2 (some .int) rmX9_years [.ref (lb_ad G 53), .int x1] G σ (lb_QI G qr.1 qr.2) := by
  refine lb_start RX9 (by decide +kernel) rfl (Nat.le_of_ble_eq_true rfl) (fun p e s m below meth c X hW ls hl => ?_)
  have hx := X.1
  have hb := X.2.1
  have hl : lv_has ls 2 [(0, .ref (lb_ad G 53)), (1, .int x1)] := hl
  have h : (if (1 : Int32) ≤ x1 then if (60 : Int32) < x1 then f_X9_years_32 σ else if ((σ 54 (2 : Int32).toNatClampNeg) + x1) ≤ (999 : Int32) then (f_X9_yearsOn 54 x1 σ).bind (fun s44 => (f_X9_allGrace s44 54).bind (fun q51 => some (q51, s44))) else f_X9_years_32 σ else (f_X9_no (-4 : Int32) σ).bind (fun q8 => some (q8.1, q8.2))) = some qr := h
  skip
  refine lv_iload_n hx hb dX9_years_0 rfl (lv_at hl 1 rfl) ?_
  refine lv_iconst (v := 1) hx hb dX9_years_1 rfl ?_
  refine lv_icmp_ge (tgt := 12) hx hb dX9_years_2 (by decide) (fun c2 => ?_) (fun c2 => ?_)
  · have h := (if_pos c2).symm.trans h
    refine lv_iload_n hx hb dX9_years_12 rfl (lv_at hl 1 rfl) ?_
    refine lv_bipush (v := 60) hx hb dX9_years_13 rfl ?_
    refine lv_icmp_gt (tgt := 32) hx hb dX9_years_15 (by decide) (fun c15 => ?_) (fun c15 => ?_)
    · have h := (if_pos c15).symm.trans h
      exact w_X9_years_32 X σ _ _ _ h hW (lv_sub hl [0] rfl)
    · have h := (if_neg c15).symm.trans h
      refine lv_aload_n hx hb dX9_years_18 rfl (lv_at hl 0 rfl) ?_
      refine rg_X9_9 X hW dX9_years_19 ?_
      refine lv_iconst (v := 2) hx hb dX9_years_22 rfl ?_
      refine lb_ild X hW (show lb_ar 54 = 60 + 1 from rfl) (lb_inC rfl) dX9_years_23 ?_
      refine lv_iload_n hx hb dX9_years_24 rfl (lv_at hl 1 rfl) ?_
      refine lv_iadd hx hb dX9_years_25 ?_
      refine lv_sipush (v := 999) hx hb dX9_years_26 rfl ?_
      refine lv_icmp_le (tgt := 39) hx hb dX9_years_29 (by decide) (fun c29 => ?_) (fun c29 => ?_)
      · have h := (if_pos c29).symm.trans h
        refine lv_aload_n hx hb dX9_years_39 rfl (lv_at hl 0 rfl) ?_
        refine rg_X9_9 X hW dX9_years_40 ?_
        refine lv_iload_n hx hb dX9_years_43 rfl (lv_at hl 1 rfl) ?_
        obtain ⟨s44, e44, h⟩ := lb_bind h
        refine rc_X9_105 X hW (show lb_ar 54 = 60 + 1 from rfl) e44 ⟨⟨rfl, rfl⟩, Nat.le_of_ble_eq_true rfl, Nat.le_of_ble_eq_true rfl⟩ hl.1 (Nat.le_of_ble_eq_true rfl) dX9_years_44 ⟨Nat.zero_le _, Nat.zero_le _⟩ (fun H locs hW => ?_)
        refine lv_aload_n hx hb dX9_years_47 rfl (lv_at hl 0 rfl) ?_
        refine rg_X9_9 X hW dX9_years_48 ?_
        obtain ⟨q51, e51, h⟩ := lb_bind h
        refine rc_X9_129 X hW (show lb_ar 54 = 60 + 1 from rfl) e51 ⟨⟨rfl, rfl⟩, Nat.le_of_ble_eq_true rfl, Nat.le_of_ble_eq_true rfl⟩ hl.1 (Nat.le_of_ble_eq_true rfl) dX9_years_51 ⟨Nat.zero_le _, Nat.zero_le _⟩ (fun H locs hW => ?_)
        obtain rfl := Option.some.inj h
        exact lb_iret X hW dX9_years_54
      · have h := (if_neg c29).symm.trans h
        exact w_X9_years_32 X σ _ _ _ h hW (lv_sub hl [0] rfl)
  · have h := (if_neg c2).symm.trans h
    refine lv_aload_n hx hb dX9_years_5 rfl (lv_at hl 0 rfl) ?_
    refine lv_bipush (v := -4) hx hb dX9_years_6 rfl ?_
    obtain ⟨q8, e8, h⟩ := lb_bind h
    refine rc_X9_35 X hW e8 ⟨⟨rfl, rfl⟩, Nat.le_of_ble_eq_true rfl, Nat.le_of_ble_eq_true rfl⟩ hl.1 (Nat.le_of_ble_eq_true rfl) dX9_years_8 ⟨Nat.zero_le _, Nat.zero_le _⟩ (fun H locs hW => ?_)
    obtain rfl := Option.some.inj h
    exact lb_iret X hW dX9_years_11
