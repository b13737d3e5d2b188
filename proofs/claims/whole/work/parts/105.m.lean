theorem rc_X8_159 {p : Program} {l : Launch} {e : Env} {R : Room} {s : State} {m : MethodId} {args : Array Value} {below : List Frame} {meth : Method} {c : Code} {H : Heap} {locs : List Loc} {cells slots : Nat} {Q : State → Prop} {cc : ByteArray} {pc nL : Nat} {ls : Array Slot} {rest : List Value} {G : lb_G} {σ : lb_Mem} {ret : Option FieldType} (X : lb_C G p s m args meth c cc nL RX8 ret) (hW : lb_W G s σ H locs) {b0 : Nat} (hb0 : lb_V b0) {qr : Int32} (h : f_X7_honestPots σ b0 = some qr) (hR : lb_room rmX7_honestPots R 3) (hls : ls.size = nL) (hrest : (rest.map fun v => v.category).sum ≤ 8) (d : decode cc pc = .ok (.invokevirtual 159, 3)) (hcap : cells ≤ R.cells ∧ slots ≤ R.slots) (kk : ∀ (H1 : Heap) (locs1 : List Loc), lb_W G s σ H1 locs1 → W p l e R s m args below meth c H1 locs1 cells slots Q (F0 m (pc + 3) ls (.int qr :: rest))) : W p l e R s m args below meth c H locs cells slots Q (F0 m pc ls (.ref (lb_ad G b0) :: rest)) :=
  lb_goI hW (lb_runV (As := []) X hW (m_X7_honestPots l G σ hb0 qr h) (n := 0) ⟨qw_563, qw_44, qw_566, by decide +kernel⟩ hR qw_564 qw_565 (lb_isV hb0) rfl hls hrest d hcap) kk
theorem rc_X8_162 {p : Program} {l : Launch} {e : Env} {R : Room} {s : State} {m : MethodId} {args : Array Value} {below : List Frame} {meth : Method} {c : Code} {H : Heap} {locs : List Loc} {cells slots : Nat} {Q : State → Prop} {cc : ByteArray} {pc nL : Nat} {ls : Array Slot} {rest : List Value} {G : lb_G} {σ : lb_Mem} {ret : Option FieldType} (X : lb_C G p s m args meth c cc nL RX8 ret) (hW : lb_W G s σ H locs) {b0 : Nat} (hb0 : lb_V b0) {qr : Int32} (h : f_X7_hopefulPots σ b0 = some qr) (hR : lb_room rmX7_hopefulPots R 3) (hls : ls.size = nL) (hrest : (rest.map fun v => v.category).sum ≤ 8) (d : decode cc pc = .ok (.invokevirtual 162, 3)) (hcap : cells ≤ R.cells ∧ slots ≤ R.slots) (kk : ∀ (H1 : Heap) (locs1 : List Loc), lb_W G s σ H1 locs1 → W p l e R s m args below meth c H1 locs1 cells slots Q (F0 m (pc + 3) ls (.int qr :: rest))) : W p l e R s m args below meth c H locs cells slots Q (F0 m pc ls (.ref (lb_ad G b0) :: rest)) :=
  lb_goI hW (lb_runV (As := []) X hW (m_X7_hopefulPots l G σ hb0 qr h) (n := 0) ⟨qw_567, qw_44, qw_570, by decide +kernel⟩ hR qw_568 qw_569 (lb_isV hb0) rfl hls hrest d hcap) kk
abbrev rmX8_honest : Room := { frames := 1, cells := 0, slots := 0, locals := 22 }
def f_X8_honest (x1 : Int32) (σ : lb_Mem) : Option (Int32 × lb_Mem) := lb_let ((f_X8_known x1 (1 : Int32))) (fun v5 : Int32 => if v5 = 0 then if x1 = 0 then (f_X7_honestPots σ 1).bind (fun q24 => some (q24, σ)) else (f_X7_hopefulPots σ 1).bind (fun q34 => some (q34, σ)) else (f_X8_refuse v5 σ).bind (fun q12 => some (q12.1, q12.2)))
set_option maxRecDepth 20000 in
set_option maxHeartbeats 4000000 in
theorem m_X8_honest (l : Launch) (G : lb_G) (σ : lb_Mem) (x1 : Int32) (qr : (Int32 × lb_Mem)) (h : f_X8_honest x1 σ = some qr) : lb_M l yX8_honest cX8_honest 3 (some .int) rmX8_honest [.ref (lb_ad G 0), .int x1] G σ (lb_QI G qr.1 qr.2) := by
  refine lb_start RX8 (by decide +kernel) rfl (Nat.le_of_ble_eq_true rfl) (fun p e s m below meth c X hW ls hl => ?_)
  have hx := X.1
  have hb := X.2.1
  have hl : lv_has ls 3 [(0, .ref (lb_ad G 0)), (1, .int x1)] := hl
  have h : (lb_let ((f_X8_known x1 (1 : Int32))) (fun v5 : Int32 => if v5 = 0 then if x1 = 0 then (f_X7_honestPots σ 1).bind (fun q24 => some (q24, σ)) else (f_X7_hopefulPots σ 1).bind (fun q34 => some (q34, σ)) else (f_X8_refuse v5 σ).bind (fun q12 => some (q12.1, q12.2)))) = some qr := h
  skip
  refine lv_iload_n hx hb dX8_honest_0 rfl (lv_at hl 1 rfl) ?_
  refine lv_iconst (v := 1) hx hb dX8_honest_1 rfl ?_
  refine rc_X8_86 X hW x1 (1 : Int32) ⟨⟨rfl, rfl⟩, Nat.le_of_ble_eq_true rfl, Nat.le_of_ble_eq_true rfl⟩ hl.1 (Nat.le_of_ble_eq_true rfl) dX8_honest_2 ⟨Nat.zero_le _, Nat.zero_le _⟩ (fun H locs hW => ?_)
  refine lv_topi (fun v5 e5 => ?_)
  have h := lb_letI e5 h
  refine lv_istore_n (lv' := [(2, .int v5), (0, .ref (lb_ad G 0)), (1, .int x1)]) hx hb dX8_honest_5 rfl hl (by decide) rfl (fun ls hl => ?_)
  refine lv_iload_n hx hb dX8_honest_6 rfl (lv_at hl 0 rfl) ?_
  refine lv_if_eq (tgt := 16) hx hb dX8_honest_7 (by decide) (fun c7 => ?_) (fun c7 => ?_)
  · have h := (if_pos c7).symm.trans h
    refine lv_iload_n hx hb dX8_honest_16 rfl (lv_at hl 2 rfl) ?_
    refine lv_if_ne (tgt := 30) hx hb dX8_honest_17 (by decide) (fun c17 => ?_) (fun c17 => ?_)
    · have h := (if_neg c17).symm.trans h
      refine lv_aload_n hx hb dX8_honest_30 rfl (lv_at hl 1 rfl) ?_
      refine rg_X8_10 X hW dX8_honest_31 ?_
      obtain ⟨q34, e34, h⟩ := lb_bind h
      refine rc_X8_162 X hW lb_V1 e34 ⟨⟨rfl, rfl⟩, Nat.le_of_ble_eq_true rfl, Nat.le_of_ble_eq_true rfl⟩ hl.1 (Nat.le_of_ble_eq_true rfl) dX8_honest_34 ⟨Nat.zero_le _, Nat.zero_le _⟩ (fun H locs hW => ?_)
      obtain rfl := Option.some.inj h
      exact lb_iret X hW dX8_honest_37
    · have h := (if_pos c17).symm.trans h
      refine lv_aload_n hx hb dX8_honest_20 rfl (lv_at hl 1 rfl) ?_
      refine rg_X8_10 X hW dX8_honest_21 ?_
      obtain ⟨q24, e24, h⟩ := lb_bind h
      refine rc_X8_159 X hW lb_V1 e24 ⟨⟨rfl, rfl⟩, Nat.le_of_ble_eq_true rfl, Nat.le_of_ble_eq_true rfl⟩ hl.1 (Nat.le_of_ble_eq_true rfl) dX8_honest_24 ⟨Nat.zero_le _, Nat.zero_le _⟩ (fun H locs hW => ?_)
      refine lv_goto (tgt := 37) hx hb dX8_honest_27 (by decide) ?_
      obtain rfl := Option.some.inj h
      exact lb_iret X hW dX8_honest_37
  · have h := (if_neg c7).symm.trans h
    refine lv_aload_n hx hb dX8_honest_10 rfl (lv_at hl 1 rfl) ?_
    refine lv_iload_n hx hb dX8_honest_11 rfl (lv_at hl 0 rfl) ?_
    obtain ⟨q12, e12, h⟩ := lb_bind h
    refine rc_X8_55 X hW e12 ⟨⟨rfl, rfl⟩, Nat.le_of_ble_eq_true rfl, Nat.le_of_ble_eq_true rfl⟩ hl.1 (Nat.le_of_ble_eq_true rfl) dX8_honest_12 ⟨Nat.zero_le _, Nat.zero_le _⟩ (fun H locs hW => ?_)
    obtain rfl := Option.some.inj h
    exact lb_iret X hW dX8_honest_15
abbrev rmX8_audit : Room := { frames := 7, cells := 0, slots := 0, locals := 162 }
def f_X8_audit_87 (kc47 : Int32 → Int32 → Int32 → Int32 → lb_Mem → Option (Int32 × lb_Mem)) (x1 : Int32) (x2 : Int32) (x4 : Int32) (x5 : Int32) (σ : lb_Mem) (y1 : Int32) (y2 : Int32) : Option (Int32 × lb_Mem) := lb_chk (lb_ix y1 8) (lb_let (lb_sto σ 28 y1.toNatClampNeg y2) (fun s87 : lb_Mem => kc47 x1 x2 x4 (x5 + 1) s87))
set_option maxRecDepth 20000 in
set_option maxHeartbeats 4000000 in
theorem w_X8_audit_87 {p : Program} {l : Launch} {e : Env} {s : State} {m : MethodId} {args : Array Value} {below : List Frame} {meth : Method} {c : Code} {G : lb_G} {qr : (Int32 × lb_Mem)} (X : lb_C G p s m args meth c cX8_audit 6 RX8 (some .int)) {kc47 : Int32 → Int32 → Int32 → Int32 → lb_Mem → Option (Int32 × lb_Mem)} (hc47 : ∀ (x1 : Int32) (x2 : Int32) (x4 : Int32) (x5 : Int32) (σ : lb_Mem) (H : Heap) (locs : List Loc) (ls : Array Slot), kc47 x1 x2 x4 x5 σ = some qr → lb_W G s σ H locs → lv_has ls 6 [(0, .ref (lb_ad G 0)), (1, .int x1), (2, .int x2), (4, .int x4), (5, .int x5)] → W p l e rmX8_audit s m args below meth c H locs 0 0 (MQ below (lb_QI G qr.1 qr.2) args s 0 0 (lb_A G)) (F0 m 47 ls [])) : ∀ (x1 : Int32) (x2 : Int32) (x4 : Int32) (x5 : Int32) (σ : lb_Mem) (y1 : Int32) (y2 : Int32) (H : Heap) (locs : List Loc) (ls : Array Slot), f_X8_audit_87 kc47 x1 x2 x4 x5 σ y1 y2 = some qr → lb_W G s σ H locs → lv_has ls 6 [(0, .ref (lb_ad G 0)), (1, .int x1), (2, .int x2), (4, .int x4), (5, .int x5)] → W p l e rmX8_audit s m args below meth c H locs 0 0 (MQ below (lb_QI G qr.1 qr.2) args s 0 0 (lb_A G)) (F0 m 87 ls [.int y2, .int y1, .ref (lb_ad G 28)]) := by
  have hx := X.1
  have hb := X.2.1
  intro x1 x2 x4 x5 σ y1 y2 H locs ls h hW hl
  have h : (lb_chk (lb_ix y1 8) (lb_let (lb_sto σ 28 y1.toNatClampNeg y2) (fun s87 : lb_Mem => kc47 x1 x2 x4 (x5 + 1) s87))) = some qr := h
  obtain ⟨i87, h⟩ := lb_chk_in h
  refine lb_ist X hW (show lb_ar 28 = 7 + 1 from rfl) i87 dX8_audit_87 (fun H locs hW => ?_)
  obtain ⟨s87, e87⟩ : ∃ z, z = lb_sto σ 28 y1.toNatClampNeg y2 := ⟨_, rfl⟩
  rw [← e87] at hW
  have h := lb_letI e87 h
  refine lv_iinc (v := (x5 + 1)) (lv' := [(5, .int (x5 + 1)), (0, .ref (lb_ad G 0)), (1, .int x1), (2, .int x2), (4, .int x4)]) hx hb dX8_audit_88 hl (k := 4) rfl rfl (by decide) rfl (fun ls hl => ?_)
  refine lv_goto (tgt := 47) hx hb dX8_audit_91 (by decide) ?_
  exact hc47 x1 x2 x4 (x5 + 1) s87 _ _ _ h hW (lv_sub hl [1, 2, 3, 4, 0] rfl)
def f_X8_audit_47 : Nat → Int32 → Int32 → Int32 → Int32 → lb_Mem → Option (Int32 × lb_Mem)
  | 0, _, _, _, _, _ => none
  | n + 1, x1, x2, x4, x5, σ => if (σ 17 9) ≤ x5 then (f_X7_pass 17 x1 σ).bind (fun s99 => (f_X7_allGrace s99 17).bind (fun q106 => some ((q106 - x4), s99))) else if x2 = 0 then lb_chk (lb_ix x5 8) (f_X8_audit_87 (fun (x1 : Int32) (x2 : Int32) (x4 : Int32) (x5 : Int32) (σ : lb_Mem) => f_X8_audit_47 n x1 x2 x4 x5 σ) x1 x2 x4 x5 σ x5 (σ 27 x5.toNatClampNeg)) else f_X8_audit_87 (fun (x1 : Int32) (x2 : Int32) (x4 : Int32) (x5 : Int32) (σ : lb_Mem) => f_X8_audit_47 n x1 x2 x4 x5 σ) x1 x2 x4 x5 σ x5 (6 : Int32)
set_option maxRecDepth 20000 in
set_option maxHeartbeats 4000000 in
theorem w_X8_audit_47 {p : Program} {l : Launch} {e : Env} {s : State} {m : MethodId} {args : Array Value} {below : List Frame} {meth : Method} {c : Code} {G : lb_G} {qr : (Int32 × lb_Mem)} (X : lb_C G p s m args meth c cX8_audit 6 RX8 (some .int)) : ∀ (n : Nat) (x1 : Int32) (x2 : Int32) (x4 : Int32) (x5 : Int32) (σ : lb_Mem) (H : Heap) (locs : List Loc) (ls : Array Slot), f_X8_audit_47 n x1 x2 x4 x5 σ = some qr → lb_W G s σ H locs → lv_has ls 6 [(0, .ref (lb_ad G 0)), (1, .int x1), (2, .int x2), (4, .int x4), (5, .int x5)] → W p l e rmX8_audit s m args below meth c H locs 0 0 (MQ below (lb_QI G qr.1 qr.2) args s 0 0 (lb_A G)) (F0 m 47 ls []) := by
  have hx := X.1
  have hb := X.2.1
  intro n
  induction n with
  | zero => intro x1 x2 x4 x5 σ H locs ls h hW hl; exact absurd h (fun z => by cases z)
  | succ n ih =>
    intro x1 x2 x4 x5 σ H locs ls h hW hl
    have h : (if (σ 17 9) ≤ x5 then (f_X7_pass 17 x1 σ).bind (fun s99 => (f_X7_allGrace s99 17).bind (fun q106 => some ((q106 - x4), s99))) else if x2 = 0 then lb_chk (lb_ix x5 8) (f_X8_audit_87 (fun (x1 : Int32) (x2 : Int32) (x4 : Int32) (x5 : Int32) (σ : lb_Mem) => f_X8_audit_47 n x1 x2 x4 x5 σ) x1 x2 x4 x5 σ x5 (σ 27 x5.toNatClampNeg)) else f_X8_audit_87 (fun (x1 : Int32) (x2 : Int32) (x4 : Int32) (x5 : Int32) (σ : lb_Mem) => f_X8_audit_47 n x1 x2 x4 x5 σ) x1 x2 x4 x5 σ x5 (6 : Int32)) = some qr := h
    refine lv_iload hx hb dX8_audit_47 (lv_at hl 4 rfl) ?_
    refine lv_aload_n hx hb dX8_audit_49 rfl (lv_at hl 0 rfl) ?_
    refine rg_X8_16 X hW dX8_audit_50 ?_
    refine rg_X8_165 X hW lb_V17 dX8_audit_53 ?_
    refine lv_icmp_ge (tgt := 94) hx hb dX8_audit_56 (by decide) (fun c56 => ?_) (fun c56 => ?_)
    · have h := (if_pos c56).symm.trans h
      refine lv_aload_n hx hb dX8_audit_94 rfl (lv_at hl 0 rfl) ?_
      refine rg_X8_16 X hW dX8_audit_95 ?_
      refine lv_iload_n hx hb dX8_audit_98 rfl (lv_at hl 1 rfl) ?_
      obtain ⟨s99, e99, h⟩ := lb_bind h
      refine rc_X8_140 X hW lb_V17 e99 ⟨⟨rfl, rfl⟩, Nat.le_of_ble_eq_true rfl, Nat.le_of_ble_eq_true rfl⟩ hl.1 (Nat.le_of_ble_eq_true rfl) dX8_audit_99 ⟨Nat.zero_le _, Nat.zero_le _⟩ (fun H locs hW => ?_)
      refine lv_aload_n hx hb dX8_audit_102 rfl (lv_at hl 0 rfl) ?_
      refine rg_X8_16 X hW dX8_audit_103 ?_
      obtain ⟨q106, e106, h⟩ := lb_bind h
      refine rc_X8_143 X hW lb_V17 e106 ⟨⟨rfl, rfl⟩, Nat.le_of_ble_eq_true rfl, Nat.le_of_ble_eq_true rfl⟩ hl.1 (Nat.le_of_ble_eq_true rfl) dX8_audit_106 ⟨Nat.zero_le _, Nat.zero_le _⟩ (fun H locs hW => ?_)
      refine lv_iload hx hb dX8_audit_109 (lv_at hl 3 rfl) ?_
      refine lv_isub hx hb dX8_audit_111 ?_
      obtain rfl := Option.some.inj h
      exact lb_iret X hW dX8_audit_112
    · have h := (if_neg c56).symm.trans h
      refine lv_aload_n hx hb dX8_audit_59 rfl (lv_at hl 0 rfl) ?_
      refine rg_X8_16 X hW dX8_audit_60 ?_
      refine rg_X8_98 (k := 28) X hW lb_V17 rfl dX8_audit_63 ?_
      refine lv_iload hx hb dX8_audit_66 (lv_at hl 4 rfl) ?_
      refine lv_iload_n hx hb dX8_audit_68 rfl (lv_at hl 2 rfl) ?_
      refine lv_if_ne (tgt := 85) hx hb dX8_audit_69 (by decide) (fun c69 => ?_) (fun c69 => ?_)
      · have h := (if_neg c69).symm.trans h
        refine lv_bipush (v := 6) hx hb dX8_audit_85 rfl ?_
        exact w_X8_audit_87 X ih x1 x2 x4 x5 σ x5 (6 : Int32) _ _ _ h hW (lv_sub hl [0, 1, 2, 3, 4] rfl)
      · have h := (if_pos c69).symm.trans h
        refine lv_aload_n hx hb dX8_audit_72 rfl (lv_at hl 0 rfl) ?_
        refine rg_X8_16 X hW dX8_audit_73 ?_
        refine rg_X8_95 (k := 27) X hW lb_V17 rfl dX8_audit_76 ?_
        refine lv_iload hx hb dX8_audit_79 (lv_at hl 4 rfl) ?_
        obtain ⟨i81, h⟩ := lb_chk_in h
        refine lb_ild X hW (show lb_ar 27 = 7 + 1 from rfl) i81 dX8_audit_81 ?_
        refine lv_goto (tgt := 87) hx hb dX8_audit_82 (by decide) ?_
        exact w_X8_audit_87 X ih x1 x2 x4 x5 σ x5 (σ 27 x5.toNatClampNeg) _ _ _ h hW (lv_sub hl [0, 1, 2, 3, 4] rfl)
def f_X8_audit (x1 : Int32) (x2 : Int32) (σ : lb_Mem) : Option (Int32 × lb_Mem) := lb_let ((f_X8_first (f_X8_within x1 (0 : Int32) (30 : Int32)) (f_X8_known x2 (1 : Int32)))) (fun v15 : Int32 => if v15 = 0 then (f_X8_allGraceBehind x1 σ).bind (fun q28 => (f_X7_become 17 1 q28.2).bind (fun s41 => f_X8_audit_47 lb_N x1 x2 q28.1 (0 : Int32) s41)) else (f_X8_refuseFar v15 σ).bind (fun q22 => some (q22.1, q22.2)))
set_option maxRecDepth 20000 in
set_option maxHeartbeats 4000000 in
theorem m_X8_audit (l : Launch) (G : lb_G) (σ : lb_Mem) (x1 : Int32) (x2 : Int32) (qr : (Int32 × lb_Mem)) (h : f_X8_audit x1 x2 σ = some qr) : lb_M l yX8_audit cX8_audit 6 (some .int) rmX8_audit [.ref (lb_ad G 0), .int x1, .int x2] G σ (lb_QI G qr.1 qr.2) := by
  refine lb_start RX8 (by decide +kernel) rfl (Nat.le_of_ble_eq_true rfl) (fun p e s m below meth c X hW ls hl => ?_)
  have hx := X.1
  have hb := X.2.1
  have hl : lv_has ls 6 [(0, .ref (lb_ad G 0)), (1, .int x1), (2, .int x2)] := hl
  have h : (lb_let ((f_X8_first (f_X8_within x1 (0 : Int32) (30 : Int32)) (f_X8_known x2 (1 : Int32)))) (fun v15 : Int32 => if v15 = 0 then (f_X8_allGraceBehind x1 σ).bind (fun q28 => (f_X7_become 17 1 q28.2).bind (fun s41 => f_X8_audit_47 lb_N x1 x2 q28.1 (0 : Int32) s41)) else (f_X8_refuseFar v15 σ).bind (fun q22 => some (q22.1, q22.2)))) = some qr := h
  skip
  refine lv_iload_n hx hb dX8_audit_0 rfl (lv_at hl 1 rfl) ?_
  refine lv_iconst (v := 0) hx hb dX8_audit_1 rfl ?_
  refine lv_bipush (v := 30) hx hb dX8_audit_2 rfl ?_
  refine rc_X8_44 X hW x1 (0 : Int32) (30 : Int32) ⟨⟨rfl, rfl⟩, Nat.le_of_ble_eq_true rfl, Nat.le_of_ble_eq_true rfl⟩ hl.1 (Nat.le_of_ble_eq_true rfl) dX8_audit_4 ⟨Nat.zero_le _, Nat.zero_le _⟩ (fun H locs hW => ?_)
  refine lv_iload_n hx hb dX8_audit_7 rfl (lv_at hl 2 rfl) ?_
  refine lv_iconst (v := 1) hx hb dX8_audit_8 rfl ?_
  refine rc_X8_86 X hW x2 (1 : Int32) ⟨⟨rfl, rfl⟩, Nat.le_of_ble_eq_true rfl, Nat.le_of_ble_eq_true rfl⟩ hl.1 (Nat.le_of_ble_eq_true rfl) dX8_audit_9 ⟨Nat.zero_le _, Nat.zero_le _⟩ (fun H locs hW => ?_)
  refine rc_X8_51 X hW (f_X8_within x1 (0 : Int32) (30 : Int32)) (f_X8_known x2 (1 : Int32)) ⟨⟨rfl, rfl⟩, Nat.le_of_ble_eq_true rfl, Nat.le_of_ble_eq_true rfl⟩ hl.1 (Nat.le_of_ble_eq_true rfl) dX8_audit_12 ⟨Nat.zero_le _, Nat.zero_le _⟩ (fun H locs hW => ?_)
  refine lv_topi (fun v15 e15 => ?_)
  have h := lb_letI e15 h
  refine lv_istore_n (lv' := [(3, .int v15), (0, .ref (lb_ad G 0)), (1, .int x1), (2, .int x2)]) hx hb dX8_audit_15 rfl hl (by decide) rfl (fun ls hl => ?_)
  refine lv_iload_n hx hb dX8_audit_16 rfl (lv_at hl 0 rfl) ?_
  refine lv_if_eq (tgt := 26) hx hb dX8_audit_17 (by decide) (fun c17 => ?_) (fun c17 => ?_)
  · have h := (if_pos c17).symm.trans h
    refine lv_aload_n hx hb dX8_audit_26 rfl (lv_at hl 1 rfl) ?_
    refine lv_iload_n hx hb dX8_audit_27 rfl (lv_at hl 2 rfl) ?_
    obtain ⟨q28, e28, h⟩ := lb_bind h
    refine rc_X8_150 X hW e28 ⟨⟨rfl, rfl⟩, Nat.le_of_ble_eq_true rfl, Nat.le_of_ble_eq_true rfl⟩ hl.1 (Nat.le_of_ble_eq_true rfl) dX8_audit_28 ⟨Nat.zero_le _, Nat.zero_le _⟩ (fun H locs hW => ?_)
    refine lv_istore (lv' := [(4, .int q28.1), (3, .int v15), (0, .ref (lb_ad G 0)), (1, .int x1), (2, .int x2)]) hx hb dX8_audit_31 hl (by decide) rfl (fun ls hl => ?_)
    refine lv_aload_n hx hb dX8_audit_33 rfl (lv_at hl 2 rfl) ?_
    refine rg_X8_16 X hW dX8_audit_34 ?_
    refine lv_aload_n hx hb dX8_audit_37 rfl (lv_at hl 2 rfl) ?_
    refine rg_X8_10 X hW dX8_audit_38 ?_
    obtain ⟨s41, e41, h⟩ := lb_bind h
    refine rc_X8_67 X hW lb_V17 lb_V1 e41 ⟨⟨rfl, rfl⟩, Nat.le_of_ble_eq_true rfl, Nat.le_of_ble_eq_true rfl⟩ hl.1 (Nat.le_of_ble_eq_true rfl) dX8_audit_41 ⟨Nat.zero_le _, Nat.zero_le _⟩ (fun H locs hW => ?_)
    refine lv_iconst (v := 0) hx hb dX8_audit_44 rfl ?_
    refine lv_istore (lv' := [(5, .int (0 : Int32)), (4, .int q28.1), (3, .int v15), (0, .ref (lb_ad G 0)), (1, .int x1), (2, .int x2)]) hx hb dX8_audit_45 hl (by decide) rfl (fun ls hl => ?_)
    exact w_X8_audit_47 X lb_N x1 x2 q28.1 (0 : Int32) s41 _ _ _ h hW (lv_sub hl [3, 4, 5, 1, 0] rfl)
  · have h := (if_neg c17).symm.trans h
    refine lv_aload_n hx hb dX8_audit_20 rfl (lv_at hl 1 rfl) ?_
    refine lv_iload_n hx hb dX8_audit_21 rfl (lv_at hl 0 rfl) ?_
    obtain ⟨q22, e22, h⟩ := lb_bind h
    refine rc_X8_122 X hW e22 ⟨⟨rfl, rfl⟩, Nat.le_of_ble_eq_true rfl, Nat.le_of_ble_eq_true rfl⟩ hl.1 (Nat.le_of_ble_eq_true rfl) dX8_audit_22 ⟨Nat.zero_le _, Nat.zero_le _⟩ (fun H locs hW => ?_)
    obtain rfl := Option.some.inj h
    exact lb_iret X hW dX8_audit_25
abbrev rmX8_allGraceChanged : Room := { frames := 6, cells := 0, slots := 0, locals := 141 }
def f_X8_allGraceChanged (x1 : Int32) (x2 : Int32) (x3 : Int32) (σ : lb_Mem) : Option (Int32 × lb_Mem) := (f_X7_become 17 1 σ).bind (fun s8 => lb_chk (lb_ix x2 8) (lb_chk (lb_ix x1 8) (lb_let (lb_sto s8 30 x1.toNatClampNeg (s8 14 x2.toNatClampNeg)) (fun s28 : lb_Mem => lb_chk (lb_ix x1 8) (lb_chk (lb_ix x2 8) (lb_let (lb_sto s28 30 x2.toNatClampNeg (s28 14 x1.toNatClampNeg)) (fun s46 : lb_Mem => (f_X7_pass 17 x3 s46).bind (fun s52 => (f_X7_allGrace s52 17).bind (fun q59 => some (q59, s52))))))))))
set_option maxRecDepth 20000 in
set_option maxHeartbeats 4000000 in
theorem m_X8_allGraceChanged (l : Launch) (G : lb_G) (σ : lb_Mem) (x1 : Int32) (x2 : Int32) (x3 : Int32) (qr : (Int32 × lb_Mem)) (h : f_X8_allGraceChanged x1 x2 x3 σ = some qr) : lb_M l yX8_allGraceChanged cX8_allGraceChanged 4 (some .int) rmX8_allGraceChanged [.ref (lb_ad G 0), .int x1, .int x2, .int x3] G σ (lb_QI G qr.1 qr.2) := by
  refine lb_start RX8 (by decide +kernel) rfl (Nat.le_of_ble_eq_true rfl) (fun p e s m below meth c X hW ls hl => ?_)
  have hx := X.1
  have hb := X.2.1
  have hl : lv_has ls 4 [(0, .ref (lb_ad G 0)), (1, .int x1), (2, .int x2), (3, .int x3)] := hl
  have h : ((f_X7_become 17 1 σ).bind (fun s8 => lb_chk (lb_ix x2 8) (lb_chk (lb_ix x1 8) (lb_let (lb_sto s8 30 x1.toNatClampNeg (s8 14 x2.toNatClampNeg)) (fun s28 : lb_Mem => lb_chk (lb_ix x1 8) (lb_chk (lb_ix x2 8) (lb_let (lb_sto s28 30 x2.toNatClampNeg (s28 14 x1.toNatClampNeg)) (fun s46 : lb_Mem => (f_X7_pass 17 x3 s46).bind (fun s52 => (f_X7_allGrace s52 17).bind (fun q59 => some (q59, s52))))))))))) = some qr := h
  skip
  refine lv_aload_n hx hb dX8_allGraceChanged_0 rfl (lv_at hl 0 rfl) ?_
  refine rg_X8_16 X hW dX8_allGraceChanged_1 ?_
  refine lv_aload_n hx hb dX8_allGraceChanged_4 rfl (lv_at hl 0 rfl) ?_
  refine rg_X8_10 X hW dX8_allGraceChanged_5 ?_
  obtain ⟨s8, e8, h⟩ := lb_bind h
  refine rc_X8_67 X hW lb_V17 lb_V1 e8 ⟨⟨rfl, rfl⟩, Nat.le_of_ble_eq_true rfl, Nat.le_of_ble_eq_true rfl⟩ hl.1 (Nat.le_of_ble_eq_true rfl) dX8_allGraceChanged_8 ⟨Nat.zero_le _, Nat.zero_le _⟩ (fun H locs hW => ?_)
  refine lv_aload_n hx hb dX8_allGraceChanged_11 rfl (lv_at hl 0 rfl) ?_
  refine rg_X8_16 X hW dX8_allGraceChanged_12 ?_
  refine rg_X8_104 (k := 30) X hW lb_V17 rfl dX8_allGraceChanged_15 ?_
  refine lv_iload_n hx hb dX8_allGraceChanged_18 rfl (lv_at hl 1 rfl) ?_
  refine lv_aload_n hx hb dX8_allGraceChanged_19 rfl (lv_at hl 0 rfl) ?_
  refine rg_X8_10 X hW dX8_allGraceChanged_20 ?_
  refine rg_X8_104 (k := 14) X hW lb_V1 rfl dX8_allGraceChanged_23 ?_
  refine lv_iload_n hx hb dX8_allGraceChanged_26 rfl (lv_at hl 2 rfl) ?_
  obtain ⟨i27, h⟩ := lb_chk_in h
  refine lb_ild X hW (show lb_ar 14 = 7 + 1 from rfl) i27 dX8_allGraceChanged_27 ?_
  obtain ⟨i28, h⟩ := lb_chk_in h
  refine lb_ist X hW (show lb_ar 30 = 7 + 1 from rfl) i28 dX8_allGraceChanged_28 (fun H locs hW => ?_)
  obtain ⟨s28, e28⟩ : ∃ z, z = lb_sto s8 30 x1.toNatClampNeg (s8 14 x2.toNatClampNeg) := ⟨_, rfl⟩
  rw [← e28] at hW
  have h := lb_letI e28 h
  refine lv_aload_n hx hb dX8_allGraceChanged_29 rfl (lv_at hl 0 rfl) ?_
  refine rg_X8_16 X hW dX8_allGraceChanged_30 ?_
  refine rg_X8_104 (k := 30) X hW lb_V17 rfl dX8_allGraceChanged_33 ?_
  refine lv_iload_n hx hb dX8_allGraceChanged_36 rfl (lv_at hl 2 rfl) ?_
  refine lv_aload_n hx hb dX8_allGraceChanged_37 rfl (lv_at hl 0 rfl) ?_
  refine rg_X8_10 X hW dX8_allGraceChanged_38 ?_
  refine rg_X8_104 (k := 14) X hW lb_V1 rfl dX8_allGraceChanged_41 ?_
  refine lv_iload_n hx hb dX8_allGraceChanged_44 rfl (lv_at hl 1 rfl) ?_
  obtain ⟨i45, h⟩ := lb_chk_in h
  refine lb_ild X hW (show lb_ar 14 = 7 + 1 from rfl) i45 dX8_allGraceChanged_45 ?_
  obtain ⟨i46, h⟩ := lb_chk_in h
  refine lb_ist X hW (show lb_ar 30 = 7 + 1 from rfl) i46 dX8_allGraceChanged_46 (fun H locs hW => ?_)
  obtain ⟨s46, e46⟩ : ∃ z, z = lb_sto s28 30 x2.toNatClampNeg (s28 14 x1.toNatClampNeg) := ⟨_, rfl⟩
  rw [← e46] at hW
  have h := lb_letI e46 h
  refine lv_aload_n hx hb dX8_allGraceChanged_47 rfl (lv_at hl 0 rfl) ?_
  refine rg_X8_16 X hW dX8_allGraceChanged_48 ?_
  refine lv_iload_n hx hb dX8_allGraceChanged_51 rfl (lv_at hl 3 rfl) ?_
  obtain ⟨s52, e52, h⟩ := lb_bind h
  refine rc_X8_140 X hW lb_V17 e52 ⟨⟨rfl, rfl⟩, Nat.le_of_ble_eq_true rfl, Nat.le_of_ble_eq_true rfl⟩ hl.1 (Nat.le_of_ble_eq_true rfl) dX8_allGraceChanged_52 ⟨Nat.zero_le _, Nat.zero_le _⟩ (fun H locs hW => ?_)
  refine lv_aload_n hx hb dX8_allGraceChanged_55 rfl (lv_at hl 0 rfl) ?_
  refine rg_X8_16 X hW dX8_allGraceChanged_56 ?_
  obtain ⟨q59, e59, h⟩ := lb_bind h
  refine rc_X8_143 X hW lb_V17 e59 ⟨⟨rfl, rfl⟩, Nat.le_of_ble_eq_true rfl, Nat.le_of_ble_eq_true rfl⟩ hl.1 (Nat.le_of_ble_eq_true rfl) dX8_allGraceChanged_59 ⟨Nat.zero_le _, Nat.zero_le _⟩ (fun H locs hW => ?_)
  obtain rfl := Option.some.inj h
  exact lb_iret X hW dX8_allGraceChanged_62
theorem rc_X8_168 {p : Program} {l : Launch} {e : Env} {R : Room} {s : State} {m : MethodId} {args : Array Value} {below : List Frame} {meth : Method} {c : Code} {H : Heap} {locs : List Loc} {cells slots : Nat} {Q : State → Prop} {cc : ByteArray} {pc nL : Nat} {ls : Array Slot} {rest : List Value} {G : lb_G} {σ : lb_Mem} {ret : Option FieldType} (X : lb_C G p s m args meth c cc nL RX8 ret) (hW : lb_W G s σ H locs) {x1 : Int32} {x2 : Int32} {x3 : Int32} {qr : (Int32 × lb_Mem)} (h : f_X8_allGraceChanged x1 x2 x3 σ = some qr) (hR : lb_room rmX8_allGraceChanged R 4) (hls : ls.size = nL) (hrest : (rest.map fun v => v.category).sum ≤ 8) (d : decode cc pc = .ok (.invokevirtual 168, 3)) (hcap : cells ≤ R.cells ∧ slots ≤ R.slots) (kk : ∀ (H1 : Heap) (locs1 : List Loc), lb_W G s qr.2 H1 locs1 → W p l e R s m args below meth c H1 locs1 cells slots Q (F0 m (pc + 3) ls (.int qr.1 :: rest))) : W p l e R s m args below meth c H locs cells slots Q (F0 m pc ls (.int x3 :: .int x2 :: .int x1 :: .ref (lb_ad G 0) :: rest)) :=
  lb_goI hW (lb_runV (As := [.int x1, .int x2, .int x3]) X hW (m_X8_allGraceChanged l G σ x1 x2 x3 qr h) (n := 3) ⟨qw_579, qw_43, qw_582, by decide +kernel⟩ hR qw_581 qw_6 lb_is0 rfl hls hrest d hcap) kk
abbrev rmX8_change : Room := { frames := 7, cells := 0, slots := 0, locals := 164 }
def f_X8_change_49 (kc31 : Int32 → Int32 → Int32 → Int32 → lb_Mem → Option (Int32 × lb_Mem)) : Nat → Int32 → Int32 → Int32 → Int32 → Int32 → lb_Mem → Option (Int32 × lb_Mem)
  | 0, _, _, _, _, _, _ => none
  | n + 1, x1, x3, x4, x5, x6, σ => if (σ 1 9) ≤ x6 then kc31 x1 x3 x4 (x5 + 1) σ else (f_X8_allGraceChanged x5 x6 x1 σ).bind (fun q67 => if q67.1 ≤ x3 then f_X8_change_49 kc31 n x1 x3 x4 x5 (x6 + 1) q67.2 else lb_let ((((10 : Int32) * x5) + x6)) (fun v89 : Int32 => f_X8_change_49 kc31 n x1 q67.1 v89 x5 (x6 + 1) q67.2))
set_option maxRecDepth 20000 in
set_option maxHeartbeats 4000000 in
theorem w_X8_change_49 {p : Program} {l : Launch} {e : Env} {s : State} {m : MethodId} {args : Array Value} {below : List Frame} {meth : Method} {c : Code} {G : lb_G} {qr : (Int32 × lb_Mem)} (X : lb_C G p s m args meth c cX8_change 8 RX8 (some .int)) {kc31 : Int32 → Int32 → Int32 → Int32 → lb_Mem → Option (Int32 × lb_Mem)} (hc31 : ∀ (x1 : Int32) (x3 : Int32) (x4 : Int32) (x5 : Int32) (σ : lb_Mem) (H : Heap) (locs : List Loc) (ls : Array Slot), kc31 x1 x3 x4 x5 σ = some qr → lb_W G s σ H locs → lv_has ls 8 [(0, .ref (lb_ad G 0)), (1, .int x1), (3, .int x3), (4, .int x4), (5, .int x5)] → W p l e rmX8_change s m args below meth c H locs 0 0 (MQ below (lb_QI G qr.1 qr.2) args s 0 0 (lb_A G)) (F0 m 31 ls [])) : ∀ (n : Nat) (x1 : Int32) (x3 : Int32) (x4 : Int32) (x5 : Int32) (x6 : Int32) (σ : lb_Mem) (H : Heap) (locs : List Loc) (ls : Array Slot), f_X8_change_49 kc31 n x1 x3 x4 x5 x6 σ = some qr → lb_W G s σ H locs → lv_has ls 8 [(0, .ref (lb_ad G 0)), (1, .int x1), (3, .int x3), (4, .int x4), (5, .int x5), (6, .int x6)] → W p l e rmX8_change s m args below meth c H locs 0 0 (MQ below (lb_QI G qr.1 qr.2) args s 0 0 (lb_A G)) (F0 m 49 ls []) := by
  have hx := X.1
  have hb := X.2.1
  intro n
  induction n with
  | zero => intro x1 x3 x4 x5 x6 σ H locs ls h hW hl; exact absurd h (fun z => by cases z)
  | succ n ih =>
    intro x1 x3 x4 x5 x6 σ H locs ls h hW hl
    have h : (if (σ 1 9) ≤ x6 then kc31 x1 x3 x4 (x5 + 1) σ else (f_X8_allGraceChanged x5 x6 x1 σ).bind (fun q67 => if q67.1 ≤ x3 then f_X8_change_49 kc31 n x1 x3 x4 x5 (x6 + 1) q67.2 else lb_let ((((10 : Int32) * x5) + x6)) (fun v89 : Int32 => f_X8_change_49 kc31 n x1 q67.1 v89 x5 (x6 + 1) q67.2))) = some qr := h
    refine lv_iload hx hb dX8_change_49 (lv_at hl 5 rfl) ?_
    refine lv_aload_n hx hb dX8_change_51 rfl (lv_at hl 0 rfl) ?_
    refine rg_X8_10 X hW dX8_change_52 ?_
    refine rg_X8_165 X hW lb_V1 dX8_change_55 ?_
    refine lv_icmp_ge (tgt := 97) hx hb dX8_change_58 (by decide) (fun c58 => ?_) (fun c58 => ?_)
    · have h := (if_pos c58).symm.trans h
      refine lv_iinc (v := (x5 + 1)) (lv' := [(5, .int (x5 + 1)), (0, .ref (lb_ad G 0)), (1, .int x1), (3, .int x3), (4, .int x4), (6, .int x6)]) hx hb dX8_change_97 hl (k := 4) rfl rfl (by decide) rfl (fun ls hl => ?_)
      refine lv_goto (tgt := 31) hx hb dX8_change_100 (by decide) ?_
      exact hc31 x1 x3 x4 (x5 + 1) σ _ _ _ h hW (lv_sub hl [1, 2, 3, 4, 0] rfl)
    · have h := (if_neg c58).symm.trans h
      refine lv_aload_n hx hb dX8_change_61 rfl (lv_at hl 0 rfl) ?_
      refine lv_iload hx hb dX8_change_62 (lv_at hl 4 rfl) ?_
      refine lv_iload hx hb dX8_change_64 (lv_at hl 5 rfl) ?_
      refine lv_iload_n hx hb dX8_change_66 rfl (lv_at hl 1 rfl) ?_
      obtain ⟨q67, e67, h⟩ := lb_bind h
      refine rc_X8_168 X hW e67 ⟨⟨rfl, rfl⟩, Nat.le_of_ble_eq_true rfl, Nat.le_of_ble_eq_true rfl⟩ hl.1 (Nat.le_of_ble_eq_true rfl) dX8_change_67 ⟨Nat.zero_le _, Nat.zero_le _⟩ (fun H locs hW => ?_)
      refine lv_istore (lv' := [(7, .int q67.1), (0, .ref (lb_ad G 0)), (1, .int x1), (3, .int x3), (4, .int x4), (5, .int x5), (6, .int x6)]) hx hb dX8_change_70 hl (by decide) rfl (fun ls hl => ?_)
      refine lv_iload hx hb dX8_change_72 (lv_at hl 0 rfl) ?_
      refine lv_iload_n hx hb dX8_change_74 rfl (lv_at hl 3 rfl) ?_
      refine lv_icmp_le (tgt := 91) hx hb dX8_change_75 (by decide) (fun c75 => ?_) (fun c75 => ?_)
      · have h := (if_pos c75).symm.trans h
        refine lv_iinc (v := (x6 + 1)) (lv' := [(6, .int (x6 + 1)), (7, .int q67.1), (0, .ref (lb_ad G 0)), (1, .int x1), (3, .int x3), (4, .int x4), (5, .int x5)]) hx hb dX8_change_91 hl (k := 6) rfl rfl (by decide) rfl (fun ls hl => ?_)
        refine lv_goto (tgt := 49) hx hb dX8_change_94 (by decide) ?_
        exact ih x1 x3 x4 x5 (x6 + 1) q67.2 _ _ _ h hW (lv_sub hl [2, 3, 4, 5, 6, 0] rfl)
      · have h := (if_neg c75).symm.trans h
        refine lv_iload hx hb dX8_change_78 (lv_at hl 0 rfl) ?_
        refine lv_istore_n (lv' := [(3, .int q67.1), (7, .int q67.1), (0, .ref (lb_ad G 0)), (1, .int x1), (4, .int x4), (5, .int x5), (6, .int x6)]) hx hb dX8_change_80 rfl hl (by decide) rfl (fun ls hl => ?_)
        refine lv_bipush (v := 10) hx hb dX8_change_81 rfl ?_
        refine lv_iload hx hb dX8_change_83 (lv_at hl 5 rfl) ?_
        refine lv_imul hx hb dX8_change_85 ?_
        refine lv_iload hx hb dX8_change_86 (lv_at hl 6 rfl) ?_
        refine lv_iadd hx hb dX8_change_88 ?_
        refine lv_topi (fun v89 e89 => ?_)
        have h := lb_letI e89 h
        refine lv_istore (lv' := [(4, .int v89), (3, .int q67.1), (7, .int q67.1), (0, .ref (lb_ad G 0)), (1, .int x1), (5, .int x5), (6, .int x6)]) hx hb dX8_change_89 hl (by decide) rfl (fun ls hl => ?_)
        refine lv_iinc (v := (x6 + 1)) (lv' := [(6, .int (x6 + 1)), (4, .int v89), (3, .int q67.1), (7, .int q67.1), (0, .ref (lb_ad G 0)), (1, .int x1), (5, .int x5)]) hx hb dX8_change_91 hl (k := 6) rfl rfl (by decide) rfl (fun ls hl => ?_)
        refine lv_goto (tgt := 49) hx hb dX8_change_94 (by decide) ?_
        exact ih x1 q67.1 v89 x5 (x6 + 1) q67.2 _ _ _ h hW (lv_sub hl [4, 5, 2, 1, 6, 0] rfl)
def f_X8_change_31 : Nat → Int32 → Int32 → Int32 → Int32 → lb_Mem → Option (Int32 × lb_Mem)
  | 0, _, _, _, _, _ => none
  | n + 1, x1, x3, x4, x5, σ => if (σ 1 9) ≤ x5 then some (x4, σ) else lb_let ((x5 + (1 : Int32))) (fun v47 : Int32 => f_X8_change_49 (fun (x1 : Int32) (x3 : Int32) (x4 : Int32) (x5 : Int32) (σ : lb_Mem) => f_X8_change_31 n x1 x3 x4 x5 σ) lb_N x1 x3 x4 x5 v47 σ)
set_option maxRecDepth 20000 in
set_option maxHeartbeats 4000000 in
theorem w_X8_change_31 {p : Program} {l : Launch} {e : Env} {s : State} {m : MethodId} {args : Array Value} {below : List Frame} {meth : Method} {c : Code} {G : lb_G} {qr : (Int32 × lb_Mem)} (X : lb_C G p s m args meth c cX8_change 8 RX8 (some .int)) : ∀ (n : Nat) (x1 : Int32) (x3 : Int32) (x4 : Int32) (x5 : Int32) (σ : lb_Mem) (H : Heap) (locs : List Loc) (ls : Array Slot), f_X8_change_31 n x1 x3 x4 x5 σ = some qr → lb_W G s σ H locs → lv_has ls 8 [(0, .ref (lb_ad G 0)), (1, .int x1), (3, .int x3), (4, .int x4), (5, .int x5)] → W p l e rmX8_change s m args below meth c H locs 0 0 (MQ below (lb_QI G qr.1 qr.2) args s 0 0 (lb_A G)) (F0 m 31 ls []) := by
  have hx := X.1
  have hb := X.2.1
  intro n
  induction n with
  | zero => intro x1 x3 x4 x5 σ H locs ls h hW hl; exact absurd h (fun z => by cases z)
  | succ n ih =>
    intro x1 x3 x4 x5 σ H locs ls h hW hl
    have h : (if (σ 1 9) ≤ x5 then some (x4, σ) else lb_let ((x5 + (1 : Int32))) (fun v47 : Int32 => f_X8_change_49 (fun (x1 : Int32) (x3 : Int32) (x4 : Int32) (x5 : Int32) (σ : lb_Mem) => f_X8_change_31 n x1 x3 x4 x5 σ) lb_N x1 x3 x4 x5 v47 σ)) = some qr := h
    refine lv_iload hx hb dX8_change_31 (lv_at hl 4 rfl) ?_
    refine lv_aload_n hx hb dX8_change_33 rfl (lv_at hl 0 rfl) ?_
    refine rg_X8_10 X hW dX8_change_34 ?_
    refine rg_X8_165 X hW lb_V1 dX8_change_37 ?_
    refine lv_icmp_ge (tgt := 103) hx hb dX8_change_40 (by decide) (fun c40 => ?_) (fun c40 => ?_)
    · have h := (if_pos c40).symm.trans h
      refine lv_iload hx hb dX8_change_103 (lv_at hl 3 rfl) ?_
      obtain rfl := Option.some.inj h
      exact lb_iret X hW dX8_change_105
    · have h := (if_neg c40).symm.trans h
      refine lv_iload hx hb dX8_change_43 (lv_at hl 4 rfl) ?_
      refine lv_iconst (v := 1) hx hb dX8_change_45 rfl ?_
      refine lv_iadd hx hb dX8_change_46 ?_
      refine lv_topi (fun v47 e47 => ?_)
      have h := lb_letI e47 h
      refine lv_istore (lv' := [(6, .int v47), (0, .ref (lb_ad G 0)), (1, .int x1), (3, .int x3), (4, .int x4), (5, .int x5)]) hx hb dX8_change_47 hl (by decide) rfl (fun ls hl => ?_)
      exact w_X8_change_49 X ih lb_N x1 x3 x4 x5 v47 σ _ _ _ h hW (lv_sub hl [1, 2, 3, 4, 5, 0] rfl)
def f_X8_change (x1 : Int32) (σ : lb_Mem) : Option (Int32 × lb_Mem) := lb_let ((f_X8_within x1 (0 : Int32) (20 : Int32))) (fun v7 : Int32 => if v7 = 0 then (f_X8_allGraceBehind x1 σ).bind (fun q20 => f_X8_change_31 lb_N x1 q20.1 (-9 : Int32) (0 : Int32) q20.2) else (f_X8_refuse v7 σ).bind (fun q14 => some (q14.1, q14.2)))
set_option maxRecDepth 20000 in
set_option maxHeartbeats 4000000 in
theorem m_X8_change (l : Launch) (G : lb_G) (σ : lb_Mem) (x1 : Int32) (qr : (Int32 × lb_Mem)) (h : f_X8_change x1 σ = some qr) : lb_M l yX8_change cX8_change 8 (some .int) rmX8_change [.ref (lb_ad G 0), .int x1] G σ (lb_QI G qr.1 qr.2) := by
  refine lb_start RX8 (by decide +kernel) rfl (Nat.le_of_ble_eq_true rfl) (fun p e s m below meth c X hW ls hl => ?_)
  have hx := X.1
  have hb := X.2.1
  have hl : lv_has ls 8 [(0, .ref (lb_ad G 0)), (1, .int x1)] := hl
  have h : (lb_let ((f_X8_within x1 (0 : Int32) (20 : Int32))) (fun v7 : Int32 => if v7 = 0 then (f_X8_allGraceBehind x1 σ).bind (fun q20 => f_X8_change_31 lb_N x1 q20.1 (-9 : Int32) (0 : Int32) q20.2) else (f_X8_refuse v7 σ).bind (fun q14 => some (q14.1, q14.2)))) = some qr := h
  skip
  refine lv_iload_n hx hb dX8_change_0 rfl (lv_at hl 1 rfl) ?_
  refine lv_iconst (v := 0) hx hb dX8_change_1 rfl ?_
  refine lv_bipush (v := 20) hx hb dX8_change_2 rfl ?_
  refine rc_X8_44 X hW x1 (0 : Int32) (20 : Int32) ⟨⟨rfl, rfl⟩, Nat.le_of_ble_eq_true rfl, Nat.le_of_ble_eq_true rfl⟩ hl.1 (Nat.le_of_ble_eq_true rfl) dX8_change_4 ⟨Nat.zero_le _, Nat.zero_le _⟩ (fun H locs hW => ?_)
  refine lv_topi (fun v7 e7 => ?_)
  have h := lb_letI e7 h
  refine lv_istore_n (lv' := [(2, .int v7), (0, .ref (lb_ad G 0)), (1, .int x1)]) hx hb dX8_change_7 rfl hl (by decide) rfl (fun ls hl => ?_)
  refine lv_iload_n hx hb dX8_change_8 rfl (lv_at hl 0 rfl) ?_
  refine lv_if_eq (tgt := 18) hx hb dX8_change_9 (by decide) (fun c9 => ?_) (fun c9 => ?_)
  · have h := (if_pos c9).symm.trans h
    refine lv_aload_n hx hb dX8_change_18 rfl (lv_at hl 1 rfl) ?_
    refine lv_iload_n hx hb dX8_change_19 rfl (lv_at hl 2 rfl) ?_
    obtain ⟨q20, e20, h⟩ := lb_bind h
    refine rc_X8_150 X hW e20 ⟨⟨rfl, rfl⟩, Nat.le_of_ble_eq_true rfl, Nat.le_of_ble_eq_true rfl⟩ hl.1 (Nat.le_of_ble_eq_true rfl) dX8_change_20 ⟨Nat.zero_le _, Nat.zero_le _⟩ (fun H locs hW => ?_)
    refine lv_istore_n (lv' := [(3, .int q20.1), (2, .int v7), (0, .ref (lb_ad G 0)), (1, .int x1)]) hx hb dX8_change_23 rfl hl (by decide) rfl (fun ls hl => ?_)
    refine lv_bipush (v := -9) hx hb dX8_change_24 rfl ?_
    refine lv_istore (lv' := [(4, .int (-9 : Int32)), (3, .int q20.1), (2, .int v7), (0, .ref (lb_ad G 0)), (1, .int x1)]) hx hb dX8_change_26 hl (by decide) rfl (fun ls hl => ?_)
    refine lv_iconst (v := 0) hx hb dX8_change_28 rfl ?_
    refine lv_istore (lv' := [(5, .int (0 : Int32)), (4, .int (-9 : Int32)), (3, .int q20.1), (2, .int v7), (0, .ref (lb_ad G 0)), (1, .int x1)]) hx hb dX8_change_29 hl (by decide) rfl (fun ls hl => ?_)
    exact w_X8_change_31 X lb_N x1 q20.1 (-9 : Int32) (0 : Int32) q20.2 _ _ _ h hW (lv_sub hl [4, 5, 2, 1, 0] rfl)
  · have h := (if_neg c9).symm.trans h
    refine lv_aload_n hx hb dX8_change_12 rfl (lv_at hl 1 rfl) ?_
    refine lv_iload_n hx hb dX8_change_13 rfl (lv_at hl 0 rfl) ?_
    obtain ⟨q14, e14, h⟩ := lb_bind h
    refine rc_X8_55 X hW e14 ⟨⟨rfl, rfl⟩, Nat.le_of_ble_eq_true rfl, Nat.le_of_ble_eq_true rfl⟩ hl.1 (Nat.le_of_ble_eq_true rfl) dX8_change_14 ⟨Nat.zero_le _, Nat.zero_le _⟩ (fun H locs hW => ?_)
    obtain rfl := Option.some.inj h
    exact lb_iret X hW dX8_change_17
abbrev rmX8_allGraceGiven : Room := { frames := 6, cells := 0, slots := 0, locals := 141 }
def f_X8_allGraceGiven (x1 : Int32) (x2 : Int32) (x3 : Int32) (σ : lb_Mem) : Option (Int32 × lb_Mem) := (f_X7_become 17 1 σ).bind (fun s8 => lb_chk (lb_ix x1 8) (lb_let (lb_sto s8 30 x1.toNatClampNeg x2) (fun s20 : lb_Mem => (f_X7_pass 17 x3 s20).bind (fun s26 => (f_X7_allGrace s26 17).bind (fun q33 => some (q33, s26))))))
set_option maxRecDepth 20000 in
set_option maxHeartbeats 4000000 in
theorem m_X8_allGraceGiven (l : Launch) (G : lb_G) (σ : lb_Mem) (x1 : Int32) (x2 : Int32) (x3 : Int32) (qr : (Int32 × lb_Mem)) (h : f_X8_allGraceGiven x1 x2 x3 σ = some qr) : lb_M l yX8_allGraceGiven cX8_allGraceGiven 4 (some .int) rmX8_allGraceGiven [.ref (lb_ad G 0), .int x1, .int x2, .int x3] G σ (lb_QI G qr.1 qr.2) := by
  refine lb_start RX8 (by decide +kernel) rfl (Nat.le_of_ble_eq_true rfl) (fun p e s m below meth c X hW ls hl => ?_)
  have hx := X.1
  have hb := X.2.1
  have hl : lv_has ls 4 [(0, .ref (lb_ad G 0)), (1, .int x1), (2, .int x2), (3, .int x3)] := hl
  have h : ((f_X7_become 17 1 σ).bind (fun s8 => lb_chk (lb_ix x1 8) (lb_let (lb_sto s8 30 x1.toNatClampNeg x2) (fun s20 : lb_Mem => (f_X7_pass 17 x3 s20).bind (fun s26 => (f_X7_allGrace s26 17).bind (fun q33 => some (q33, s26))))))) = some qr := h
  skip
  refine lv_aload_n hx hb dX8_allGraceGiven_0 rfl (lv_at hl 0 rfl) ?_
  refine rg_X8_16 X hW dX8_allGraceGiven_1 ?_
  refine lv_aload_n hx hb dX8_allGraceGiven_4 rfl (lv_at hl 0 rfl) ?_
  refine rg_X8_10 X hW dX8_allGraceGiven_5 ?_
  obtain ⟨s8, e8, h⟩ := lb_bind h
  refine rc_X8_67 X hW lb_V17 lb_V1 e8 ⟨⟨rfl, rfl⟩, Nat.le_of_ble_eq_true rfl, Nat.le_of_ble_eq_true rfl⟩ hl.1 (Nat.le_of_ble_eq_true rfl) dX8_allGraceGiven_8 ⟨Nat.zero_le _, Nat.zero_le _⟩ (fun H locs hW => ?_)
  refine lv_aload_n hx hb dX8_allGraceGiven_11 rfl (lv_at hl 0 rfl) ?_
  refine rg_X8_16 X hW dX8_allGraceGiven_12 ?_
  refine rg_X8_104 (k := 30) X hW lb_V17 rfl dX8_allGraceGiven_15 ?_
  refine lv_iload_n hx hb dX8_allGraceGiven_18 rfl (lv_at hl 1 rfl) ?_
  refine lv_iload_n hx hb dX8_allGraceGiven_19 rfl (lv_at hl 2 rfl) ?_
  obtain ⟨i20, h⟩ := lb_chk_in h
  refine lb_ist X hW (show lb_ar 30 = 7 + 1 from rfl) i20 dX8_allGraceGiven_20 (fun H locs hW => ?_)
  obtain ⟨s20, e20⟩ : ∃ z, z = lb_sto s8 30 x1.toNatClampNeg x2 := ⟨_, rfl⟩
  rw [← e20] at hW
  have h := lb_letI e20 h
  refine lv_aload_n hx hb dX8_allGraceGiven_21 rfl (lv_at hl 0 rfl) ?_
  refine rg_X8_16 X hW dX8_allGraceGiven_22 ?_
  refine lv_iload_n hx hb dX8_allGraceGiven_25 rfl (lv_at hl 3 rfl) ?_
  obtain ⟨s26, e26, h⟩ := lb_bind h
  refine rc_X8_140 X hW lb_V17 e26 ⟨⟨rfl, rfl⟩, Nat.le_of_ble_eq_true rfl, Nat.le_of_ble_eq_true rfl⟩ hl.1 (Nat.le_of_ble_eq_true rfl) dX8_allGraceGiven_26 ⟨Nat.zero_le _, Nat.zero_le _⟩ (fun H locs hW => ?_)
  refine lv_aload_n hx hb dX8_allGraceGiven_29 rfl (lv_at hl 0 rfl) ?_
  refine rg_X8_16 X hW dX8_allGraceGiven_30 ?_
  obtain ⟨q33, e33, h⟩ := lb_bind h
  refine rc_X8_143 X hW lb_V17 e33 ⟨⟨rfl, rfl⟩, Nat.le_of_ble_eq_true rfl, Nat.le_of_ble_eq_true rfl⟩ hl.1 (Nat.le_of_ble_eq_true rfl) dX8_allGraceGiven_33 ⟨Nat.zero_le _, Nat.zero_le _⟩ (fun H locs hW => ?_)
  obtain rfl := Option.some.inj h
  exact lb_iret X hW dX8_allGraceGiven_36
theorem rc_X8_171 {p : Program} {l : Launch} {e : Env} {R : Room} {s : State} {m : MethodId} {args : Array Value} {below : List Frame} {meth : Method} {c : Code} {H : Heap} {locs : List Loc} {cells slots : Nat} {Q : State → Prop} {cc : ByteArray} {pc nL : Nat} {ls : Array Slot} {rest : List Value} {G : lb_G} {σ : lb_Mem} {ret : Option FieldType} (X : lb_C G p s m args meth c cc nL RX8 ret) (hW : lb_W G s σ H locs) {x1 : Int32} {x2 : Int32} {x3 : Int32} {qr : (Int32 × lb_Mem)} (h : f_X8_allGraceGiven x1 x2 x3 σ = some qr) (hR : lb_room rmX8_allGraceGiven R 4) (hls : ls.size = nL) (hrest : (rest.map fun v => v.category).sum ≤ 8) (d : decode cc pc = .ok (.invokevirtual 171, 3)) (hcap : cells ≤ R.cells ∧ slots ≤ R.slots) (kk : ∀ (H1 : Heap) (locs1 : List Loc), lb_W G s qr.2 H1 locs1 → W p l e R s m args below meth c H1 locs1 cells slots Q (F0 m (pc + 3) ls (.int qr.1 :: rest))) : W p l e R s m args below meth c H locs cells slots Q (F0 m pc ls (.int x3 :: .int x2 :: .int x1 :: .ref (lb_ad G 0) :: rest)) :=
  lb_goI hW (lb_runV (As := [.int x1, .int x2, .int x3]) X hW (m_X8_allGraceGiven l G σ x1 x2 x3 qr h) (n := 3) ⟨qw_587, qw_43, qw_590, by decide +kernel⟩ hR qw_589 qw_7 lb_is0 rfl hls hrest d hcap) kk
abbrev rmX8_gift : Room := { frames := 7, cells := 0, slots := 0, locals := 164 }
def f_X8_gift_46 (kc31 : Int32 → Int32 → Int32 → Int32 → lb_Mem → Option (Int32 × lb_Mem)) : Nat → Int32 → Int32 → Int32 → Int32 → Int32 → lb_Mem → Option (Int32 × lb_Mem)
  | 0, _, _, _, _, _, _ => none
  | n + 1, x1, x3, x4, x5, x6, σ => if (σ 1 10) ≤ x6 then kc31 x1 x3 x4 (x5 + 1) σ else (f_X8_allGraceGiven x5 x6 x1 σ).bind (fun q64 => if q64.1 ≤ x3 then f_X8_gift_46 kc31 n x1 x3 x4 x5 (x6 + 1) q64.2 else lb_let ((((10 : Int32) * x5) + x6)) (fun v86 : Int32 => f_X8_gift_46 kc31 n x1 q64.1 v86 x5 (x6 + 1) q64.2))
set_option maxRecDepth 20000 in
set_option maxHeartbeats 4000000 in
theorem w_X8_gift_46 {p : Program} {l : Launch} {e : Env} {s : State} {m : MethodId} {args : Array Value} {below : List Frame} {meth : Method} {c : Code} {G : lb_G} {qr : (Int32 × lb_Mem)} (X : lb_C G p s m args meth c cX8_gift 8 RX8 (some .int)) {kc31 : Int32 → Int32 → Int32 → Int32 → lb_Mem → Option (Int32 × lb_Mem)} (hc31 : ∀ (x1 : Int32) (x3 : Int32) (x4 : Int32) (x5 : Int32) (σ : lb_Mem) (H : Heap) (locs : List Loc) (ls : Array Slot), kc31 x1 x3 x4 x5 σ = some qr → lb_W G s σ H locs → lv_has ls 8 [(0, .ref (lb_ad G 0)), (1, .int x1), (3, .int x3), (4, .int x4), (5, .int x5)] → W p l e rmX8_gift s m args below meth c H locs 0 0 (MQ below (lb_QI G qr.1 qr.2) args s 0 0 (lb_A G)) (F0 m 31 ls [])) : ∀ (n : Nat) (x1 : Int32) (x3 : Int32) (x4 : Int32) (x5 : Int32) (x6 : Int32) (σ : lb_Mem) (H : Heap) (locs : List Loc) (ls : Array Slot), f_X8_gift_46 kc31 n x1 x3 x4 x5 x6 σ = some qr → lb_W G s σ H locs → lv_has ls 8 [(0, .ref (lb_ad G 0)), (1, .int x1), (3, .int x3), (4, .int x4), (5, .int x5), (6, .int x6)] → W p l e rmX8_gift s m args below meth c H locs 0 0 (MQ below (lb_QI G qr.1 qr.2) args s 0 0 (lb_A G)) (F0 m 46 ls []) := by
  have hx := X.1
  have hb := X.2.1
  intro n
  induction n with
  | zero => intro x1 x3 x4 x5 x6 σ H locs ls h hW hl; exact absurd h (fun z => by cases z)
  | succ n ih =>
    intro x1 x3 x4 x5 x6 σ H locs ls h hW hl
    have h : (if (σ 1 10) ≤ x6 then kc31 x1 x3 x4 (x5 + 1) σ else (f_X8_allGraceGiven x5 x6 x1 σ).bind (fun q64 => if q64.1 ≤ x3 then f_X8_gift_46 kc31 n x1 x3 x4 x5 (x6 + 1) q64.2 else lb_let ((((10 : Int32) * x5) + x6)) (fun v86 : Int32 => f_X8_gift_46 kc31 n x1 q64.1 v86 x5 (x6 + 1) q64.2))) = some qr := h
    refine lv_iload hx hb dX8_gift_46 (lv_at hl 5 rfl) ?_
    refine lv_aload_n hx hb dX8_gift_48 rfl (lv_at hl 0 rfl) ?_
    refine rg_X8_10 X hW dX8_gift_49 ?_
    refine rg_X8_156 X hW lb_V1 dX8_gift_52 ?_
    refine lv_icmp_ge (tgt := 94) hx hb dX8_gift_55 (by decide) (fun c55 => ?_) (fun c55 => ?_)
    · have h := (if_pos c55).symm.trans h
      refine lv_iinc (v := (x5 + 1)) (lv' := [(5, .int (x5 + 1)), (0, .ref (lb_ad G 0)), (1, .int x1), (3, .int x3), (4, .int x4), (6, .int x6)]) hx hb dX8_gift_94 hl (k := 4) rfl rfl (by decide) rfl (fun ls hl => ?_)
      refine lv_goto (tgt := 31) hx hb dX8_gift_97 (by decide) ?_
      exact hc31 x1 x3 x4 (x5 + 1) σ _ _ _ h hW (lv_sub hl [1, 2, 3, 4, 0] rfl)
    · have h := (if_neg c55).symm.trans h
      refine lv_aload_n hx hb dX8_gift_58 rfl (lv_at hl 0 rfl) ?_
      refine lv_iload hx hb dX8_gift_59 (lv_at hl 4 rfl) ?_
      refine lv_iload hx hb dX8_gift_61 (lv_at hl 5 rfl) ?_
      refine lv_iload_n hx hb dX8_gift_63 rfl (lv_at hl 1 rfl) ?_
      obtain ⟨q64, e64, h⟩ := lb_bind h
      refine rc_X8_171 X hW e64 ⟨⟨rfl, rfl⟩, Nat.le_of_ble_eq_true rfl, Nat.le_of_ble_eq_true rfl⟩ hl.1 (Nat.le_of_ble_eq_true rfl) dX8_gift_64 ⟨Nat.zero_le _, Nat.zero_le _⟩ (fun H locs hW => ?_)
      refine lv_istore (lv' := [(7, .int q64.1), (0, .ref (lb_ad G 0)), (1, .int x1), (3, .int x3), (4, .int x4), (5, .int x5), (6, .int x6)]) hx hb dX8_gift_67 hl (by decide) rfl (fun ls hl => ?_)
      refine lv_iload hx hb dX8_gift_69 (lv_at hl 0 rfl) ?_
      refine lv_iload_n hx hb dX8_gift_71 rfl (lv_at hl 3 rfl) ?_
      refine lv_icmp_le (tgt := 88) hx hb dX8_gift_72 (by decide) (fun c72 => ?_) (fun c72 => ?_)
      · have h := (if_pos c72).symm.trans h
        refine lv_iinc (v := (x6 + 1)) (lv' := [(6, .int (x6 + 1)), (7, .int q64.1), (0, .ref (lb_ad G 0)), (1, .int x1), (3, .int x3), (4, .int x4), (5, .int x5)]) hx hb dX8_gift_88 hl (k := 6) rfl rfl (by decide) rfl (fun ls hl => ?_)
        refine lv_goto (tgt := 46) hx hb dX8_gift_91 (by decide) ?_
        exact ih x1 x3 x4 x5 (x6 + 1) q64.2 _ _ _ h hW (lv_sub hl [2, 3, 4, 5, 6, 0] rfl)
      · have h := (if_neg c72).symm.trans h
        refine lv_iload hx hb dX8_gift_75 (lv_at hl 0 rfl) ?_
        refine lv_istore_n (lv' := [(3, .int q64.1), (7, .int q64.1), (0, .ref (lb_ad G 0)), (1, .int x1), (4, .int x4), (5, .int x5), (6, .int x6)]) hx hb dX8_gift_77 rfl hl (by decide) rfl (fun ls hl => ?_)
        refine lv_bipush (v := 10) hx hb dX8_gift_78 rfl ?_
        refine lv_iload hx hb dX8_gift_80 (lv_at hl 5 rfl) ?_
        refine lv_imul hx hb dX8_gift_82 ?_
        refine lv_iload hx hb dX8_gift_83 (lv_at hl 6 rfl) ?_
        refine lv_iadd hx hb dX8_gift_85 ?_
        refine lv_topi (fun v86 e86 => ?_)
        have h := lb_letI e86 h
        refine lv_istore (lv' := [(4, .int v86), (3, .int q64.1), (7, .int q64.1), (0, .ref (lb_ad G 0)), (1, .int x1), (5, .int x5), (6, .int x6)]) hx hb dX8_gift_86 hl (by decide) rfl (fun ls hl => ?_)
        refine lv_iinc (v := (x6 + 1)) (lv' := [(6, .int (x6 + 1)), (4, .int v86), (3, .int q64.1), (7, .int q64.1), (0, .ref (lb_ad G 0)), (1, .int x1), (5, .int x5)]) hx hb dX8_gift_88 hl (k := 6) rfl rfl (by decide) rfl (fun ls hl => ?_)
        refine lv_goto (tgt := 46) hx hb dX8_gift_91 (by decide) ?_
        exact ih x1 q64.1 v86 x5 (x6 + 1) q64.2 _ _ _ h hW (lv_sub hl [4, 5, 2, 1, 6, 0] rfl)
def f_X8_gift_31 : Nat → Int32 → Int32 → Int32 → Int32 → lb_Mem → Option (Int32 × lb_Mem)
  | 0, _, _, _, _, _ => none
  | n + 1, x1, x3, x4, x5, σ => if (σ 1 9) ≤ x5 then some (x4, σ) else f_X8_gift_46 (fun (x1 : Int32) (x3 : Int32) (x4 : Int32) (x5 : Int32) (σ : lb_Mem) => f_X8_gift_31 n x1 x3 x4 x5 σ) lb_N x1 x3 x4 x5 (0 : Int32) σ
set_option maxRecDepth 20000 in
set_option maxHeartbeats 4000000 in
theorem w_X8_gift_31 {p : Program} {l : Launch} {e : Env} {s : State} {m : MethodId} {args : Array Value} {below : List Frame} {meth : Method} {c : Code} {G : lb_G} {qr : (Int32 × lb_Mem)} (X : lb_C G p s m args meth c cX8_gift 8 RX8 (some .int)) : ∀ (n : Nat) (x1 : Int32) (x3 : Int32) (x4 : Int32) (x5 : Int32) (σ : lb_Mem) (H : Heap) (locs : List Loc) (ls : Array Slot), f_X8_gift_31 n x1 x3 x4 x5 σ = some qr → lb_W G s σ H locs → lv_has ls 8 [(0, .ref (lb_ad G 0)), (1, .int x1), (3, .int x3), (4, .int x4), (5, .int x5)] → W p l e rmX8_gift s m args below meth c H locs 0 0 (MQ below (lb_QI G qr.1 qr.2) args s 0 0 (lb_A G)) (F0 m 31 ls []) := by
  have hx := X.1
  have hb := X.2.1
  intro n
  induction n with
  | zero => intro x1 x3 x4 x5 σ H locs ls h hW hl; exact absurd h (fun z => by cases z)
  | succ n ih =>
    intro x1 x3 x4 x5 σ H locs ls h hW hl
    have h : (if (σ 1 9) ≤ x5 then some (x4, σ) else f_X8_gift_46 (fun (x1 : Int32) (x3 : Int32) (x4 : Int32) (x5 : Int32) (σ : lb_Mem) => f_X8_gift_31 n x1 x3 x4 x5 σ) lb_N x1 x3 x4 x5 (0 : Int32) σ) = some qr := h
    refine lv_iload hx hb dX8_gift_31 (lv_at hl 4 rfl) ?_
    refine lv_aload_n hx hb dX8_gift_33 rfl (lv_at hl 0 rfl) ?_
    refine rg_X8_10 X hW dX8_gift_34 ?_
    refine rg_X8_165 X hW lb_V1 dX8_gift_37 ?_
    refine lv_icmp_ge (tgt := 100) hx hb dX8_gift_40 (by decide) (fun c40 => ?_) (fun c40 => ?_)
    · have h := (if_pos c40).symm.trans h
      refine lv_iload hx hb dX8_gift_100 (lv_at hl 3 rfl) ?_
      obtain rfl := Option.some.inj h
      exact lb_iret X hW dX8_gift_102
    · have h := (if_neg c40).symm.trans h
      refine lv_iconst (v := 0) hx hb dX8_gift_43 rfl ?_
      refine lv_istore (lv' := [(6, .int (0 : Int32)), (0, .ref (lb_ad G 0)), (1, .int x1), (3, .int x3), (4, .int x4), (5, .int x5)]) hx hb dX8_gift_44 hl (by decide) rfl (fun ls hl => ?_)
      exact w_X8_gift_46 X ih lb_N x1 x3 x4 x5 (0 : Int32) σ _ _ _ h hW (lv_sub hl [1, 2, 3, 4, 5, 0] rfl)
def f_X8_gift (x1 : Int32) (σ : lb_Mem) : Option (Int32 × lb_Mem) := lb_let ((f_X8_within x1 (0 : Int32) (20 : Int32))) (fun v7 : Int32 => if v7 = 0 then (f_X8_allGraceBehind x1 σ).bind (fun q20 => f_X8_gift_31 lb_N x1 q20.1 (-9 : Int32) (0 : Int32) q20.2) else (f_X8_refuse v7 σ).bind (fun q14 => some (q14.1, q14.2)))
set_option maxRecDepth 20000 in
set_option maxHeartbeats 4000000 in
theorem m_X8_gift (l : Launch) (G : lb_G) (σ : lb_Mem) (x1 : Int32) (qr : (Int32 × lb_Mem)) (h : f_X8_gift x1 σ = some qr) : lb_M l yX8_gift cX8_gift 8 (some .int) rmX8_gift [.ref (lb_ad G 0), .int x1] G σ (lb_QI G qr.1 qr.2) := by
  refine lb_start RX8 (by decide +kernel) rfl (Nat.le_of_ble_eq_true rfl) (fun p e s m below meth c X hW ls hl => ?_)
  have hx := X.1
  have hb := X.2.1
  have hl : lv_has ls 8 [(0, .ref (lb_ad G 0)), (1, .int x1)] := hl
  have h : (lb_let ((f_X8_within x1 (0 : Int32) (20 : Int32))) (fun v7 : Int32 => if v7 = 0 then (f_X8_allGraceBehind x1 σ).bind (fun q20 => f_X8_gift_31 lb_N x1 q20.1 (-9 : Int32) (0 : Int32) q20.2) else (f_X8_refuse v7 σ).bind (fun q14 => some (q14.1, q14.2)))) = some qr := h
  skip
  refine lv_iload_n hx hb dX8_gift_0 rfl (lv_at hl 1 rfl) ?_
  refine lv_iconst (v := 0) hx hb dX8_gift_1 rfl ?_
  refine lv_bipush (v := 20) hx hb dX8_gift_2 rfl ?_
  refine rc_X8_44 X hW x1 (0 : Int32) (20 : Int32) ⟨⟨rfl, rfl⟩, Nat.le_of_ble_eq_true rfl, Nat.le_of_ble_eq_true rfl⟩ hl.1 (Nat.le_of_ble_eq_true rfl) dX8_gift_4 ⟨Nat.zero_le _, Nat.zero_le _⟩ (fun H locs hW => ?_)
  refine lv_topi (fun v7 e7 => ?_)
  have h := lb_letI e7 h
  refine lv_istore_n (lv' := [(2, .int v7), (0, .ref (lb_ad G 0)), (1, .int x1)]) hx hb dX8_gift_7 rfl hl (by decide) rfl (fun ls hl => ?_)
  refine lv_iload_n hx hb dX8_gift_8 rfl (lv_at hl 0 rfl) ?_
  refine lv_if_eq (tgt := 18) hx hb dX8_gift_9 (by decide) (fun c9 => ?_) (fun c9 => ?_)
  · have h := (if_pos c9).symm.trans h
    refine lv_aload_n hx hb dX8_gift_18 rfl (lv_at hl 1 rfl) ?_
    refine lv_iload_n hx hb dX8_gift_19 rfl (lv_at hl 2 rfl) ?_
    obtain ⟨q20, e20, h⟩ := lb_bind h
    refine rc_X8_150 X hW e20 ⟨⟨rfl, rfl⟩, Nat.le_of_ble_eq_true rfl, Nat.le_of_ble_eq_true rfl⟩ hl.1 (Nat.le_of_ble_eq_true rfl) dX8_gift_20 ⟨Nat.zero_le _, Nat.zero_le _⟩ (fun H locs hW => ?_)
    refine lv_istore_n (lv' := [(3, .int q20.1), (2, .int v7), (0, .ref (lb_ad G 0)), (1, .int x1)]) hx hb dX8_gift_23 rfl hl (by decide) rfl (fun ls hl => ?_)
    refine lv_bipush (v := -9) hx hb dX8_gift_24 rfl ?_
    refine lv_istore (lv' := [(4, .int (-9 : Int32)), (3, .int q20.1), (2, .int v7), (0, .ref (lb_ad G 0)), (1, .int x1)]) hx hb dX8_gift_26 hl (by decide) rfl (fun ls hl => ?_)
    refine lv_iconst (v := 0) hx hb dX8_gift_28 rfl ?_
    refine lv_istore (lv' := [(5, .int (0 : Int32)), (4, .int (-9 : Int32)), (3, .int q20.1), (2, .int v7), (0, .ref (lb_ad G 0)), (1, .int x1)]) hx hb dX8_gift_29 hl (by decide) rfl (fun ls hl => ?_)
    exact w_X8_gift_31 X lb_N x1 q20.1 (-9 : Int32) (0 : Int32) q20.2 _ _ _ h hW (lv_sub hl [4, 5, 2, 1, 0] rfl)
  · have h := (if_neg c9).symm.trans h
    refine lv_aload_n hx hb dX8_gift_12 rfl (lv_at hl 1 rfl) ?_
    refine lv_iload_n hx hb dX8_gift_13 rfl (lv_at hl 0 rfl) ?_
    obtain ⟨q14, e14, h⟩ := lb_bind h
    refine rc_X8_55 X hW e14 ⟨⟨rfl, rfl⟩, Nat.le_of_ble_eq_true rfl, Nat.le_of_ble_eq_true rfl⟩ hl.1 (Nat.le_of_ble_eq_true rfl) dX8_gift_14 ⟨Nat.zero_le _, Nat.zero_le _⟩ (fun H locs hW => ?_)
    obtain rfl := Option.some.inj h
    exact lb_iret X hW dX8_gift_17
abbrev rmX8_whoGainsMost : Room := { frames := 4, cells := 0, slots := 0, locals := 94 }
def f_X8_whoGainsMost_4 (σ : lb_Mem) : Nat → Int32 → Int32 → Int32 → Option Int32
  | 0, _, _, _ => none
  | n + 1, x1, x2, x3 => if (σ 1 10) ≤ x3 then some x2 else (f_X7_gained σ 1 x1 x3).bind (fun q21 => (f_X7_gained σ 1 x1 x2).bind (fun q30 => if q21 ≤ q30 then f_X8_whoGainsMost_4 σ n x1 x2 (x3 + 1) else f_X8_whoGainsMost_4 σ n x1 x3 (x3 + 1)))
set_option maxRecDepth 20000 in
set_option maxHeartbeats 4000000 in
theorem w_X8_whoGainsMost_4 {p : Program} {l : Launch} {e : Env} {s : State} {m : MethodId} {args : Array Value} {below : List Frame} {meth : Method} {c : Code} {G : lb_G} {σ : lb_Mem} {qr : Int32} (X : lb_C G p s m args meth c cX8_whoGainsMost 4 RX8 (some .int)) : ∀ (n : Nat) (x1 : Int32) (x2 : Int32) (x3 : Int32) (H : Heap) (locs : List Loc) (ls : Array Slot), f_X8_whoGainsMost_4 σ n x1 x2 x3 = some qr → lb_W G s σ H locs → lv_has ls 4 [(0, .ref (lb_ad G 0)), (1, .int x1), (2, .int x2), (3, .int x3)] → W p l e rmX8_whoGainsMost s m args below meth c H locs 0 0 (MQ below (lb_QI G qr σ) args s 0 0 (lb_A G)) (F0 m 4 ls []) := by
  have hx := X.1
  have hb := X.2.1
  intro n
  induction n with
  | zero => intro x1 x2 x3 H locs ls h hW hl; exact absurd h (fun z => by cases z)
  | succ n ih =>
    intro x1 x2 x3 H locs ls h hW hl
    have h : (if (σ 1 10) ≤ x3 then some x2 else (f_X7_gained σ 1 x1 x3).bind (fun q21 => (f_X7_gained σ 1 x1 x2).bind (fun q30 => if q21 ≤ q30 then f_X8_whoGainsMost_4 σ n x1 x2 (x3 + 1) else f_X8_whoGainsMost_4 σ n x1 x3 (x3 + 1)))) = some qr := h
    refine lv_iload_n hx hb dX8_whoGainsMost_4 rfl (lv_at hl 3 rfl) ?_
    refine lv_aload_n hx hb dX8_whoGainsMost_5 rfl (lv_at hl 0 rfl) ?_
    refine rg_X8_10 X hW dX8_whoGainsMost_6 ?_
    refine rg_X8_156 X hW lb_V1 dX8_whoGainsMost_9 ?_
    refine lv_icmp_ge (tgt := 44) hx hb dX8_whoGainsMost_12 (by decide) (fun c12 => ?_) (fun c12 => ?_)
    · have h := (if_pos c12).symm.trans h
      refine lv_iload_n hx hb dX8_whoGainsMost_44 rfl (lv_at hl 2 rfl) ?_
      obtain rfl := Option.some.inj h
      exact lb_iret X hW dX8_whoGainsMost_45
    · have h := (if_neg c12).symm.trans h
      refine lv_aload_n hx hb dX8_whoGainsMost_15 rfl (lv_at hl 0 rfl) ?_
      refine rg_X8_10 X hW dX8_whoGainsMost_16 ?_
      refine lv_iload_n hx hb dX8_whoGainsMost_19 rfl (lv_at hl 1 rfl) ?_
      refine lv_iload_n hx hb dX8_whoGainsMost_20 rfl (lv_at hl 3 rfl) ?_
      obtain ⟨q21, e21, h⟩ := lb_bind h
      refine rc_X8_125 X hW lb_V1 e21 ⟨⟨rfl, rfl⟩, Nat.le_of_ble_eq_true rfl, Nat.le_of_ble_eq_true rfl⟩ hl.1 (Nat.le_of_ble_eq_true rfl) dX8_whoGainsMost_21 ⟨Nat.zero_le _, Nat.zero_le _⟩ (fun H locs hW => ?_)
      refine lv_aload_n hx hb dX8_whoGainsMost_24 rfl (lv_at hl 0 rfl) ?_
      refine rg_X8_10 X hW dX8_whoGainsMost_25 ?_
      refine lv_iload_n hx hb dX8_whoGainsMost_28 rfl (lv_at hl 1 rfl) ?_
      refine lv_iload_n hx hb dX8_whoGainsMost_29 rfl (lv_at hl 2 rfl) ?_
      obtain ⟨q30, e30, h⟩ := lb_bind h
      refine rc_X8_125 X hW lb_V1 e30 ⟨⟨rfl, rfl⟩, Nat.le_of_ble_eq_true rfl, Nat.le_of_ble_eq_true rfl⟩ hl.1 (Nat.le_of_ble_eq_true rfl) dX8_whoGainsMost_30 ⟨Nat.zero_le _, Nat.zero_le _⟩ (fun H locs hW => ?_)
      refine lv_icmp_le (tgt := 38) hx hb dX8_whoGainsMost_33 (by decide) (fun c33 => ?_) (fun c33 => ?_)
      · have h := (if_pos c33).symm.trans h
        refine lv_iinc (v := (x3 + 1)) (lv' := [(3, .int (x3 + 1)), (0, .ref (lb_ad G 0)), (1, .int x1), (2, .int x2)]) hx hb dX8_whoGainsMost_38 hl (k := 3) rfl rfl (by decide) rfl (fun ls hl => ?_)
        refine lv_goto (tgt := 4) hx hb dX8_whoGainsMost_41 (by decide) ?_
        exact ih x1 x2 (x3 + 1) _ _ _ h hW (lv_sub hl [1, 2, 3, 0] rfl)
      · have h := (if_neg c33).symm.trans h
        refine lv_iload_n hx hb dX8_whoGainsMost_36 rfl (lv_at hl 3 rfl) ?_
        refine lv_istore_n (lv' := [(2, .int x3), (0, .ref (lb_ad G 0)), (1, .int x1), (3, .int x3)]) hx hb dX8_whoGainsMost_37 rfl hl (by decide) rfl (fun ls hl => ?_)
        refine lv_iinc (v := (x3 + 1)) (lv' := [(3, .int (x3 + 1)), (2, .int x3), (0, .ref (lb_ad G 0)), (1, .int x1)]) hx hb dX8_whoGainsMost_38 hl (k := 3) rfl rfl (by decide) rfl (fun ls hl => ?_)
        refine lv_goto (tgt := 4) hx hb dX8_whoGainsMost_41 (by decide) ?_
        exact ih x1 x3 (x3 + 1) _ _ _ h hW (lv_sub hl [2, 3, 1, 0] rfl)
def f_X8_whoGainsMost (σ : lb_Mem) (x1 : Int32) : Option Int32 := f_X8_whoGainsMost_4 σ lb_N x1 (0 : Int32) (1 : Int32)
set_option maxRecDepth 20000 in
set_option maxHeartbeats 4000000 in
theorem m_X8_whoGainsMost (l : Launch) (G : lb_G) (σ : lb_Mem) (x1 : Int32) (qr : Int32) (h : f_X8_whoGainsMost σ x1 = some qr) : lb_M l yX8_whoGainsMost cX8_whoGainsMost 4 (some .int) rmX8_whoGainsMost [.ref (lb_ad G 0), .int x1] G σ (lb_QI G qr σ) := by
  refine lb_start RX8 (by decide +kernel) rfl (Nat.le_of_ble_eq_true rfl) (fun p e s m below meth c X hW ls hl => ?_)
  have hx := X.1
  have hb := X.2.1
  have hl : lv_has ls 4 [(0, .ref (lb_ad G 0)), (1, .int x1)] := hl
  have h : (f_X8_whoGainsMost_4 σ lb_N x1 (0 : Int32) (1 : Int32)) = some qr := h
  skip
  refine lv_iconst (v := 0) hx hb dX8_whoGainsMost_0 rfl ?_
  refine lv_istore_n (lv' := [(2, .int (0 : Int32)), (0, .ref (lb_ad G 0)), (1, .int x1)]) hx hb dX8_whoGainsMost_1 rfl hl (by decide) rfl (fun ls hl => ?_)
  refine lv_iconst (v := 1) hx hb dX8_whoGainsMost_2 rfl ?_
  refine lv_istore_n (lv' := [(3, .int (1 : Int32)), (2, .int (0 : Int32)), (0, .ref (lb_ad G 0)), (1, .int x1)]) hx hb dX8_whoGainsMost_3 rfl hl (by decide) rfl (fun ls hl => ?_)
  exact w_X8_whoGainsMost_4 X lb_N x1 (0 : Int32) (1 : Int32) _ _ _ h hW (lv_sub hl [2, 3, 1, 0] rfl)
theorem rc_X8_174 {p : Program} {l : Launch} {e : Env} {R : Room} {s : State} {m : MethodId} {args : Array Value} {below : List Frame} {meth : Method} {c : Code} {H : Heap} {locs : List Loc} {cells slots : Nat} {Q : State → Prop} {cc : ByteArray} {pc nL : Nat} {ls : Array Slot} {rest : List Value} {G : lb_G} {σ : lb_Mem} {ret : Option FieldType} (X : lb_C G p s m args meth c cc nL RX8 ret) (hW : lb_W G s σ H locs) {x1 : Int32} {qr : Int32} (h : f_X8_whoGainsMost σ x1 = some qr) (hR : lb_room rmX8_whoGainsMost R 4) (hls : ls.size = nL) (hrest : (rest.map fun v => v.category).sum ≤ 8) (d : decode cc pc = .ok (.invokevirtual 174, 3)) (hcap : cells ≤ R.cells ∧ slots ≤ R.slots) (kk : ∀ (H1 : Heap) (locs1 : List Loc), lb_W G s σ H1 locs1 → W p l e R s m args below meth c H1 locs1 cells slots Q (F0 m (pc + 3) ls (.int qr :: rest))) : W p l e R s m args below meth c H locs cells slots Q (F0 m pc ls (.int x1 :: .ref (lb_ad G 0) :: rest)) :=
  lb_goI hW (lb_runV (As := [.int x1]) X hW (m_X8_whoGainsMost l G σ x1 qr h) (n := 1) ⟨qw_595, qw_43, qw_598, by decide +kernel⟩ hR qw_597 qw_8 lb_is0 rfl hls hrest d hcap) kk
abbrev rmX8_deal : Room := { frames := 5, cells := 0, slots := 0, locals := 117 }
def f_X8_deal_88 (x1 : Int32) (x2 : Int32) (σ : lb_Mem) : Option (Int32 × lb_Mem) := if x1 = (-1 : Int32) then some (x2, σ) else some ((-9 : Int32), σ)
set_option maxRecDepth 20000 in
set_option maxHeartbeats 4000000 in
theorem w_X8_deal_88 {p : Program} {l : Launch} {e : Env} {s : State} {m : MethodId} {args : Array Value} {below : List Frame} {meth : Method} {c : Code} {G : lb_G} {qr : (Int32 × lb_Mem)} (X : lb_C G p s m args meth c cX8_deal 6 RX8 (some .int)) : ∀ (x1 : Int32) (x2 : Int32) (σ : lb_Mem) (H : Heap) (locs : List Loc) (ls : Array Slot), f_X8_deal_88 x1 x2 σ = some qr → lb_W G s σ H locs → lv_has ls 6 [(1, .int x1), (2, .int x2)] → W p l e rmX8_deal s m args below meth c H locs 0 0 (MQ below (lb_QI G qr.1 qr.2) args s 0 0 (lb_A G)) (F0 m 88 ls []) := by
  have hx := X.1
  have hb := X.2.1
  intro x1 x2 σ H locs ls h hW hl
  have h : (if x1 = (-1 : Int32) then some (x2, σ) else some ((-9 : Int32), σ)) = some qr := h
  refine lv_iload_n hx hb dX8_deal_88 rfl (lv_at hl 0 rfl) ?_
  refine lv_iconst (v := -1) hx hb dX8_deal_89 rfl ?_
  refine lv_icmp_ne (tgt := 97) hx hb dX8_deal_90 (by decide) (fun c90 => ?_) (fun c90 => ?_)
  · have h := (if_neg c90).symm.trans h
    refine lv_bipush (v := -9) hx hb dX8_deal_97 rfl ?_
    obtain rfl := Option.some.inj h
    exact lb_iret X hW dX8_deal_99
  · have h := (if_pos c90).symm.trans h
    refine lv_iload_n hx hb dX8_deal_93 rfl (lv_at hl 1 rfl) ?_
    refine lv_goto (tgt := 99) hx hb dX8_deal_94 (by decide) ?_
    obtain rfl := Option.some.inj h
    exact lb_iret X hW dX8_deal_99
def f_X8_deal_19 : Nat → Int32 → Int32 → Int32 → Int32 → lb_Mem → Option (Int32 × lb_Mem)
  | 0, _, _, _, _, _ => none
  | n + 1, x1, x2, x3, x4, σ => if (σ 1 9) ≤ x4 then f_X8_deal_88 x1 x2 σ else if (5 : Int32) ≤ x3 then f_X8_deal_88 x1 x2 σ else lb_chk (lb_ix x4 8) (if (σ 13 x4.toNatClampNeg) ≤ 0 then f_X8_deal_19 n x1 x2 x3 (x4 + 1) σ else (f_X8_whoGainsMost σ x4).bind (fun q52 => if x3 = x1 then some (q52, σ) else (f_X7_gained σ 1 x4 q52).bind (fun q74 => lb_let ((x2 + q74)) (fun v78 : Int32 => f_X8_deal_19 n x1 v78 (x3 + 1) (x4 + 1) σ))))
set_option maxRecDepth 20000 in
set_option maxHeartbeats 4000000 in
theorem w_X8_deal_19 {p : Program} {l : Launch} {e : Env} {s : State} {m : MethodId} {args : Array Value} {below : List Frame} {meth : Method} {c : Code} {G : lb_G} {qr : (Int32 × lb_Mem)} (X : lb_C G p s m args meth c cX8_deal 6 RX8 (some .int)) : ∀ (n : Nat) (x1 : Int32) (x2 : Int32) (x3 : Int32) (x4 : Int32) (σ : lb_Mem) (H : Heap) (locs : List Loc) (ls : Array Slot), f_X8_deal_19 n x1 x2 x3 x4 σ = some qr → lb_W G s σ H locs → lv_has ls 6 [(0, .ref (lb_ad G 0)), (1, .int x1), (2, .int x2), (3, .int x3), (4, .int x4)] → W p l e rmX8_deal s m args below meth c H locs 0 0 (MQ below (lb_QI G qr.1 qr.2) args s 0 0 (lb_A G)) (F0 m 19 ls []) := by
  have hx := X.1
  have hb := X.2.1
  intro n
  induction n with
  | zero => intro x1 x2 x3 x4 σ H locs ls h hW hl; exact absurd h (fun z => by cases z)
  | succ n ih =>
    intro x1 x2 x3 x4 σ H locs ls h hW hl
    have h : (if (σ 1 9) ≤ x4 then f_X8_deal_88 x1 x2 σ else if (5 : Int32) ≤ x3 then f_X8_deal_88 x1 x2 σ else lb_chk (lb_ix x4 8) (if (σ 13 x4.toNatClampNeg) ≤ 0 then f_X8_deal_19 n x1 x2 x3 (x4 + 1) σ else (f_X8_whoGainsMost σ x4).bind (fun q52 => if x3 = x1 then some (q52, σ) else (f_X7_gained σ 1 x4 q52).bind (fun q74 => lb_let ((x2 + q74)) (fun v78 : Int32 => f_X8_deal_19 n x1 v78 (x3 + 1) (x4 + 1) σ))))) = some qr := h
    refine lv_iload hx hb dX8_deal_19 (lv_at hl 4 rfl) ?_
    refine lv_aload_n hx hb dX8_deal_21 rfl (lv_at hl 0 rfl) ?_
    refine rg_X8_10 X hW dX8_deal_22 ?_
    refine rg_X8_165 X hW lb_V1 dX8_deal_25 ?_
    refine lv_icmp_ge (tgt := 88) hx hb dX8_deal_28 (by decide) (fun c28 => ?_) (fun c28 => ?_)
    · have h := (if_pos c28).symm.trans h
      exact w_X8_deal_88 X x1 x2 σ _ _ _ h hW (lv_sub hl [1, 2] rfl)
    · have h := (if_neg c28).symm.trans h
      refine lv_iload_n hx hb dX8_deal_31 rfl (lv_at hl 3 rfl) ?_
      refine lv_iconst (v := 5) hx hb dX8_deal_32 rfl ?_
      refine lv_icmp_ge (tgt := 88) hx hb dX8_deal_33 (by decide) (fun c33 => ?_) (fun c33 => ?_)
      · have h := (if_pos c33).symm.trans h
        exact w_X8_deal_88 X x1 x2 σ _ _ _ h hW (lv_sub hl [1, 2] rfl)
      · have h := (if_neg c33).symm.trans h
        refine lv_aload_n hx hb dX8_deal_36 rfl (lv_at hl 0 rfl) ?_
        refine rg_X8_10 X hW dX8_deal_37 ?_
        refine rg_X8_101 (k := 13) X hW lb_V1 rfl dX8_deal_40 ?_
        refine lv_iload hx hb dX8_deal_43 (lv_at hl 4 rfl) ?_
        obtain ⟨i45, h⟩ := lb_chk_in h
        refine lb_ild X hW (show lb_ar 13 = 7 + 1 from rfl) i45 dX8_deal_45 ?_
        refine lv_if_le (tgt := 82) hx hb dX8_deal_46 (by decide) (fun c46 => ?_) (fun c46 => ?_)
        · have h := (if_pos c46).symm.trans h
          refine lv_iinc (v := (x4 + 1)) (lv' := [(4, .int (x4 + 1)), (0, .ref (lb_ad G 0)), (1, .int x1), (2, .int x2), (3, .int x3)]) hx hb dX8_deal_82 hl (k := 4) rfl rfl (by decide) rfl (fun ls hl => ?_)
          refine lv_goto (tgt := 19) hx hb dX8_deal_85 (by decide) ?_
          exact ih x1 x2 x3 (x4 + 1) σ _ _ _ h hW (lv_sub hl [1, 2, 3, 4, 0] rfl)
        · have h := (if_neg c46).symm.trans h
          refine lv_aload_n hx hb dX8_deal_49 rfl (lv_at hl 0 rfl) ?_
          refine lv_iload hx hb dX8_deal_50 (lv_at hl 4 rfl) ?_
          obtain ⟨q52, e52, h⟩ := lb_bind h
          refine rc_X8_174 X hW e52 ⟨⟨rfl, rfl⟩, Nat.le_of_ble_eq_true rfl, Nat.le_of_ble_eq_true rfl⟩ hl.1 (Nat.le_of_ble_eq_true rfl) dX8_deal_52 ⟨Nat.zero_le _, Nat.zero_le _⟩ (fun H locs hW => ?_)
          refine lv_istore (lv' := [(5, .int q52), (0, .ref (lb_ad G 0)), (1, .int x1), (2, .int x2), (3, .int x3), (4, .int x4)]) hx hb dX8_deal_55 hl (by decide) rfl (fun ls hl => ?_)
          refine lv_iload_n hx hb dX8_deal_57 rfl (lv_at hl 4 rfl) ?_
          refine lv_iload_n hx hb dX8_deal_58 rfl (lv_at hl 2 rfl) ?_
          refine lv_icmp_ne (tgt := 65) hx hb dX8_deal_59 (by decide) (fun c59 => ?_) (fun c59 => ?_)
          · have h := (if_neg c59).symm.trans h
            refine lv_iload_n hx hb dX8_deal_65 rfl (lv_at hl 3 rfl) ?_
            refine lv_aload_n hx hb dX8_deal_66 rfl (lv_at hl 1 rfl) ?_
            refine rg_X8_10 X hW dX8_deal_67 ?_
            refine lv_iload hx hb dX8_deal_70 (lv_at hl 5 rfl) ?_
            refine lv_iload hx hb dX8_deal_72 (lv_at hl 0 rfl) ?_
            obtain ⟨q74, e74, h⟩ := lb_bind h
            refine rc_X8_125 X hW lb_V1 e74 ⟨⟨rfl, rfl⟩, Nat.le_of_ble_eq_true rfl, Nat.le_of_ble_eq_true rfl⟩ hl.1 (Nat.le_of_ble_eq_true rfl) dX8_deal_74 ⟨Nat.zero_le _, Nat.zero_le _⟩ (fun H locs hW => ?_)
            refine lv_iadd hx hb dX8_deal_77 ?_
            refine lv_topi (fun v78 e78 => ?_)
            have h := lb_letI e78 h
            refine lv_istore_n (lv' := [(2, .int v78), (5, .int q52), (0, .ref (lb_ad G 0)), (1, .int x1), (3, .int x3), (4, .int x4)]) hx hb dX8_deal_78 rfl hl (by decide) rfl (fun ls hl => ?_)
            refine lv_iinc (v := (x3 + 1)) (lv' := [(3, .int (x3 + 1)), (2, .int v78), (5, .int q52), (0, .ref (lb_ad G 0)), (1, .int x1), (4, .int x4)]) hx hb dX8_deal_79 hl (k := 4) rfl rfl (by decide) rfl (fun ls hl => ?_)
            refine lv_iinc (v := (x4 + 1)) (lv' := [(4, .int (x4 + 1)), (3, .int (x3 + 1)), (2, .int v78), (5, .int q52), (0, .ref (lb_ad G 0)), (1, .int x1)]) hx hb dX8_deal_82 hl (k := 5) rfl rfl (by decide) rfl (fun ls hl => ?_)
            refine lv_goto (tgt := 19) hx hb dX8_deal_85 (by decide) ?_
            exact ih x1 v78 (x3 + 1) (x4 + 1) σ _ _ _ h hW (lv_sub hl [4, 5, 2, 1, 0] rfl)
          · have h := (if_pos c59).symm.trans h
            refine lv_iload hx hb dX8_deal_62 (lv_at hl 0 rfl) ?_
            obtain rfl := Option.some.inj h
            exact lb_iret X hW dX8_deal_64
def f_X8_deal (x1 : Int32) (σ : lb_Mem) : Option (Int32 × lb_Mem) := if (-1 : Int32) ≤ x1 then f_X8_deal_19 lb_N x1 (0 : Int32) (0 : Int32) (0 : Int32) σ else (f_X8_refuseFar (-4 : Int32) σ).bind (fun q8 => some (q8.1, q8.2))
set_option maxRecDepth 20000 in
set_option maxHeartbeats 4000000 in
theorem m_X8_deal (l : Launch) (G : lb_G) (σ : lb_Mem) (x1 : Int32) (qr : (Int32 × lb_Mem)) (h : f_X8_deal x1 σ = some qr) : lb_M l yX8_deal cX8_deal 6 (some .int) rmX8_deal [.ref (lb_ad G 0), .int x1] G σ (lb_QI G qr.1 qr.2) := by
  refine lb_start RX8 (by decide +kernel) rfl (Nat.le_of_ble_eq_true rfl) (fun p e s m below meth c X hW ls hl => ?_)
  have hx := X.1
  have hb := X.2.1
  have hl : lv_has ls 6 [(0, .ref (lb_ad G 0)), (1, .int x1)] := hl
  have h : (if (-1 : Int32) ≤ x1 then f_X8_deal_19 lb_N x1 (0 : Int32) (0 : Int32) (0 : Int32) σ else (f_X8_refuseFar (-4 : Int32) σ).bind (fun q8 => some (q8.1, q8.2))) = some qr := h
  skip
  refine lv_iload_n hx hb dX8_deal_0 rfl (lv_at hl 1 rfl) ?_
  refine lv_iconst (v := -1) hx hb dX8_deal_1 rfl ?_
  refine lv_icmp_ge (tgt := 12) hx hb dX8_deal_2 (by decide) (fun c2 => ?_) (fun c2 => ?_)
  · have h := (if_pos c2).symm.trans h
    refine lv_iconst (v := 0) hx hb dX8_deal_12 rfl ?_
    refine lv_istore_n (lv' := [(2, .int (0 : Int32)), (0, .ref (lb_ad G 0)), (1, .int x1)]) hx hb dX8_deal_13 rfl hl (by decide) rfl (fun ls hl => ?_)
    refine lv_iconst (v := 0) hx hb dX8_deal_14 rfl ?_
    refine lv_istore_n (lv' := [(3, .int (0 : Int32)), (2, .int (0 : Int32)), (0, .ref (lb_ad G 0)), (1, .int x1)]) hx hb dX8_deal_15 rfl hl (by decide) rfl (fun ls hl => ?_)
    refine lv_iconst (v := 0) hx hb dX8_deal_16 rfl ?_
    refine lv_istore (lv' := [(4, .int (0 : Int32)), (3, .int (0 : Int32)), (2, .int (0 : Int32)), (0, .ref (lb_ad G 0)), (1, .int x1)]) hx hb dX8_deal_17 hl (by decide) rfl (fun ls hl => ?_)
    exact w_X8_deal_19 X lb_N x1 (0 : Int32) (0 : Int32) (0 : Int32) σ _ _ _ h hW (lv_sub hl [3, 4, 2, 1, 0] rfl)
  · have h := (if_neg c2).symm.trans h
    refine lv_aload_n hx hb dX8_deal_5 rfl (lv_at hl 0 rfl) ?_
    refine lv_bipush (v := -4) hx hb dX8_deal_6 rfl ?_
    obtain ⟨q8, e8, h⟩ := lb_bind h
    refine rc_X8_122 X hW e8 ⟨⟨rfl, rfl⟩, Nat.le_of_ble_eq_true rfl, Nat.le_of_ble_eq_true rfl⟩ hl.1 (Nat.le_of_ble_eq_true rfl) dX8_deal_8 ⟨Nat.zero_le _, Nat.zero_le _⟩ (fun H locs hW => ?_)
    obtain rfl := Option.some.inj h
    exact lb_iret X hW dX8_deal_11
abbrev rmX8_worst : Room := { frames := 4, cells := 0, slots := 0, locals := 94 }
def f_X8_worst_25 : Nat → Int32 → Int32 → Int32 → Int32 → lb_Mem → Option (Int32 × lb_Mem)
  | 0, _, _, _, _, _ => none
  | n + 1, x1, x3, x4, x5, σ => if (σ 1 9) ≤ x5 then if x1 = 0 then some (x3, σ) else some (x4, σ) else lb_chk (lb_ix x5 8) (if (σ 13 x5.toNatClampNeg) ≤ 0 then f_X8_worst_25 n x1 x3 x4 (x5 + 1) σ else lb_chk (lb_ix x5 8) ((f_X7_gained σ 1 x5 (σ 14 x5.toNatClampNeg)).bind (fun q66 => if x3 = (-9 : Int32) then f_X8_worst_25 n x1 x5 q66 (x5 + 1) σ else if x4 ≤ q66 then f_X8_worst_25 n x1 x3 x4 (x5 + 1) σ else f_X8_worst_25 n x1 x5 q66 (x5 + 1) σ)))
set_option maxRecDepth 20000 in
set_option maxHeartbeats 4000000 in
theorem w_X8_worst_25 {p : Program} {l : Launch} {e : Env} {s : State} {m : MethodId} {args : Array Value} {below : List Frame} {meth : Method} {c : Code} {G : lb_G} {qr : (Int32 × lb_Mem)} (X : lb_C G p s m args meth c cX8_worst 7 RX8 (some .int)) : ∀ (n : Nat) (x1 : Int32) (x3 : Int32) (x4 : Int32) (x5 : Int32) (σ : lb_Mem) (H : Heap) (locs : List Loc) (ls : Array Slot), f_X8_worst_25 n x1 x3 x4 x5 σ = some qr → lb_W G s σ H locs → lv_has ls 7 [(0, .ref (lb_ad G 0)), (1, .int x1), (3, .int x3), (4, .int x4), (5, .int x5)] → W p l e rmX8_worst s m args below meth c H locs 0 0 (MQ below (lb_QI G qr.1 qr.2) args s 0 0 (lb_A G)) (F0 m 25 ls []) := by
  have hx := X.1
  have hb := X.2.1
  intro n
  induction n with
  | zero => intro x1 x3 x4 x5 σ H locs ls h hW hl; exact absurd h (fun z => by cases z)
  | succ n ih =>
    intro x1 x3 x4 x5 σ H locs ls h hW hl
    have h : (if (σ 1 9) ≤ x5 then if x1 = 0 then some (x3, σ) else some (x4, σ) else lb_chk (lb_ix x5 8) (if (σ 13 x5.toNatClampNeg) ≤ 0 then f_X8_worst_25 n x1 x3 x4 (x5 + 1) σ else lb_chk (lb_ix x5 8) ((f_X7_gained σ 1 x5 (σ 14 x5.toNatClampNeg)).bind (fun q66 => if x3 = (-9 : Int32) then f_X8_worst_25 n x1 x5 q66 (x5 + 1) σ else if x4 ≤ q66 then f_X8_worst_25 n x1 x3 x4 (x5 + 1) σ else f_X8_worst_25 n x1 x5 q66 (x5 + 1) σ)))) = some qr := h
    refine lv_iload hx hb dX8_worst_25 (lv_at hl 4 rfl) ?_
    refine lv_aload_n hx hb dX8_worst_27 rfl (lv_at hl 0 rfl) ?_
    refine rg_X8_10 X hW dX8_worst_28 ?_
    refine rg_X8_165 X hW lb_V1 dX8_worst_31 ?_
    refine lv_icmp_ge (tgt := 97) hx hb dX8_worst_34 (by decide) (fun c34 => ?_) (fun c34 => ?_)
    · have h := (if_pos c34).symm.trans h
      refine lv_iload_n hx hb dX8_worst_97 rfl (lv_at hl 1 rfl) ?_
      refine lv_if_ne (tgt := 105) hx hb dX8_worst_98 (by decide) (fun c98 => ?_) (fun c98 => ?_)
      · have h := (if_neg c98).symm.trans h
        refine lv_iload hx hb dX8_worst_105 (lv_at hl 3 rfl) ?_
        obtain rfl := Option.some.inj h
        exact lb_iret X hW dX8_worst_107
      · have h := (if_pos c98).symm.trans h
        refine lv_iload_n hx hb dX8_worst_101 rfl (lv_at hl 2 rfl) ?_
        refine lv_goto (tgt := 107) hx hb dX8_worst_102 (by decide) ?_
        obtain rfl := Option.some.inj h
        exact lb_iret X hW dX8_worst_107
    · have h := (if_neg c34).symm.trans h
      refine lv_aload_n hx hb dX8_worst_37 rfl (lv_at hl 0 rfl) ?_
      refine rg_X8_10 X hW dX8_worst_38 ?_
      refine rg_X8_101 (k := 13) X hW lb_V1 rfl dX8_worst_41 ?_
      refine lv_iload hx hb dX8_worst_44 (lv_at hl 4 rfl) ?_
      obtain ⟨i46, h⟩ := lb_chk_in h
      refine lb_ild X hW (show lb_ar 13 = 7 + 1 from rfl) i46 dX8_worst_46 ?_
      refine lv_if_le (tgt := 91) hx hb dX8_worst_47 (by decide) (fun c47 => ?_) (fun c47 => ?_)
      · have h := (if_pos c47).symm.trans h
        refine lv_iinc (v := (x5 + 1)) (lv' := [(5, .int (x5 + 1)), (0, .ref (lb_ad G 0)), (1, .int x1), (3, .int x3), (4, .int x4)]) hx hb dX8_worst_91 hl (k := 4) rfl rfl (by decide) rfl (fun ls hl => ?_)
        refine lv_goto (tgt := 25) hx hb dX8_worst_94 (by decide) ?_
        exact ih x1 x3 x4 (x5 + 1) σ _ _ _ h hW (lv_sub hl [1, 2, 3, 4, 0] rfl)
      · have h := (if_neg c47).symm.trans h
        refine lv_aload_n hx hb dX8_worst_50 rfl (lv_at hl 0 rfl) ?_
        refine rg_X8_10 X hW dX8_worst_51 ?_
        refine lv_iload hx hb dX8_worst_54 (lv_at hl 4 rfl) ?_
        refine lv_aload_n hx hb dX8_worst_56 rfl (lv_at hl 0 rfl) ?_
        refine rg_X8_10 X hW dX8_worst_57 ?_
        refine rg_X8_104 (k := 14) X hW lb_V1 rfl dX8_worst_60 ?_
        refine lv_iload hx hb dX8_worst_63 (lv_at hl 4 rfl) ?_
        obtain ⟨i65, h⟩ := lb_chk_in h
        refine lb_ild X hW (show lb_ar 14 = 7 + 1 from rfl) i65 dX8_worst_65 ?_
        obtain ⟨q66, e66, h⟩ := lb_bind h
        refine rc_X8_125 X hW lb_V1 e66 ⟨⟨rfl, rfl⟩, Nat.le_of_ble_eq_true rfl, Nat.le_of_ble_eq_true rfl⟩ hl.1 (Nat.le_of_ble_eq_true rfl) dX8_worst_66 ⟨Nat.zero_le _, Nat.zero_le _⟩ (fun H locs hW => ?_)
        refine lv_istore (lv' := [(6, .int q66), (0, .ref (lb_ad G 0)), (1, .int x1), (3, .int x3), (4, .int x4), (5, .int x5)]) hx hb dX8_worst_69 hl (by decide) rfl (fun ls hl => ?_)
        refine lv_iload_n hx hb dX8_worst_71 rfl (lv_at hl 3 rfl) ?_
        refine lv_bipush (v := -9) hx hb dX8_worst_72 rfl ?_
        refine lv_icmp_eq (tgt := 84) hx hb dX8_worst_74 (by decide) (fun c74 => ?_) (fun c74 => ?_)
        · have h := (if_pos c74).symm.trans h
          refine lv_iload hx hb dX8_worst_84 (lv_at hl 5 rfl) ?_
          refine lv_istore_n (lv' := [(3, .int x5), (6, .int q66), (0, .ref (lb_ad G 0)), (1, .int x1), (4, .int x4), (5, .int x5)]) hx hb dX8_worst_86 rfl hl (by decide) rfl (fun ls hl => ?_)
          refine lv_iload hx hb dX8_worst_87 (lv_at hl 1 rfl) ?_
          refine lv_istore (lv' := [(4, .int q66), (3, .int x5), (6, .int q66), (0, .ref (lb_ad G 0)), (1, .int x1), (5, .int x5)]) hx hb dX8_worst_89 hl (by decide) rfl (fun ls hl => ?_)
          refine lv_iinc (v := (x5 + 1)) (lv' := [(5, .int (x5 + 1)), (4, .int q66), (3, .int x5), (6, .int q66), (0, .ref (lb_ad G 0)), (1, .int x1)]) hx hb dX8_worst_91 hl (k := 5) rfl rfl (by decide) rfl (fun ls hl => ?_)
          refine lv_goto (tgt := 25) hx hb dX8_worst_94 (by decide) ?_
          exact ih x1 x5 q66 (x5 + 1) σ _ _ _ h hW (lv_sub hl [4, 5, 2, 1, 0] rfl)
        · have h := (if_neg c74).symm.trans h
          refine lv_iload hx hb dX8_worst_77 (lv_at hl 0 rfl) ?_
          refine lv_iload hx hb dX8_worst_79 (lv_at hl 4 rfl) ?_
          refine lv_icmp_ge (tgt := 91) hx hb dX8_worst_81 (by decide) (fun c81 => ?_) (fun c81 => ?_)
          · have h := (if_pos c81).symm.trans h
            refine lv_iinc (v := (x5 + 1)) (lv' := [(5, .int (x5 + 1)), (6, .int q66), (0, .ref (lb_ad G 0)), (1, .int x1), (3, .int x3), (4, .int x4)]) hx hb dX8_worst_91 hl (k := 5) rfl rfl (by decide) rfl (fun ls hl => ?_)
            refine lv_goto (tgt := 25) hx hb dX8_worst_94 (by decide) ?_
            exact ih x1 x3 x4 (x5 + 1) σ _ _ _ h hW (lv_sub hl [2, 3, 4, 5, 0] rfl)
          · have h := (if_neg c81).symm.trans h
            refine lv_iload hx hb dX8_worst_84 (lv_at hl 5 rfl) ?_
            refine lv_istore_n (lv' := [(3, .int x5), (6, .int q66), (0, .ref (lb_ad G 0)), (1, .int x1), (4, .int x4), (5, .int x5)]) hx hb dX8_worst_86 rfl hl (by decide) rfl (fun ls hl => ?_)
            refine lv_iload hx hb dX8_worst_87 (lv_at hl 1 rfl) ?_
            refine lv_istore (lv' := [(4, .int q66), (3, .int x5), (6, .int q66), (0, .ref (lb_ad G 0)), (1, .int x1), (5, .int x5)]) hx hb dX8_worst_89 hl (by decide) rfl (fun ls hl => ?_)
            refine lv_iinc (v := (x5 + 1)) (lv' := [(5, .int (x5 + 1)), (4, .int q66), (3, .int x5), (6, .int q66), (0, .ref (lb_ad G 0)), (1, .int x1)]) hx hb dX8_worst_91 hl (k := 5) rfl rfl (by decide) rfl (fun ls hl => ?_)
            refine lv_goto (tgt := 25) hx hb dX8_worst_94 (by decide) ?_
            exact ih x1 x5 q66 (x5 + 1) σ _ _ _ h hW (lv_sub hl [4, 5, 2, 1, 0] rfl)
def f_X8_worst (x1 : Int32) (σ : lb_Mem) : Option (Int32 × lb_Mem) := lb_let ((f_X8_known x1 (1 : Int32))) (fun v5 : Int32 => if v5 = 0 then f_X8_worst_25 lb_N x1 (-9 : Int32) (0 : Int32) (0 : Int32) σ else (f_X8_refuseFar v5 σ).bind (fun q12 => some (q12.1, q12.2)))
set_option maxRecDepth 20000 in
set_option maxHeartbeats 4000000 in
theorem m_X8_worst (l : Launch) (G : lb_G) (σ : lb_Mem) (x1 : Int32) (qr : (Int32 × lb_Mem)) (h : f_X8_worst x1 σ = some qr) : lb_M l yX8_worst cX8_worst 7 (some .int) rmX8_worst [.ref (lb_ad G 0), .int x1] G σ (lb_QI G qr.1 qr.2) := by
  refine lb_start RX8 (by decide +kernel) rfl (Nat.le_of_ble_eq_true rfl) (fun p e s m below meth c X hW ls hl => ?_)
  have hx := X.1
  have hb := X.2.1
  have hl : lv_has ls 7 [(0, .ref (lb_ad G 0)), (1, .int x1)] := hl
  have h : (lb_let ((f_X8_known x1 (1 : Int32))) (fun v5 : Int32 => if v5 = 0 then f_X8_worst_25 lb_N x1 (-9 : Int32) (0 : Int32) (0 : Int32) σ else (f_X8_refuseFar v5 σ).bind (fun q12 => some (q12.1, q12.2)))) = some qr := h
  skip
  refine lv_iload_n hx hb dX8_worst_0 rfl (lv_at hl 1 rfl) ?_
  refine lv_iconst (v := 1) hx hb dX8_worst_1 rfl ?_
  refine rc_X8_86 X hW x1 (1 : Int32) ⟨⟨rfl, rfl⟩, Nat.le_of_ble_eq_true rfl, Nat.le_of_ble_eq_true rfl⟩ hl.1 (Nat.le_of_ble_eq_true rfl) dX8_worst_2 ⟨Nat.zero_le _, Nat.zero_le _⟩ (fun H locs hW => ?_)
  refine lv_topi (fun v5 e5 => ?_)
  have h := lb_letI e5 h
  refine lv_istore_n (lv' := [(2, .int v5), (0, .ref (lb_ad G 0)), (1, .int x1)]) hx hb dX8_worst_5 rfl hl (by decide) rfl (fun ls hl => ?_)
  refine lv_iload_n hx hb dX8_worst_6 rfl (lv_at hl 0 rfl) ?_
  refine lv_if_eq (tgt := 16) hx hb dX8_worst_7 (by decide) (fun c7 => ?_) (fun c7 => ?_)
  · have h := (if_pos c7).symm.trans h
    refine lv_bipush (v := -9) hx hb dX8_worst_16 rfl ?_
    refine lv_istore_n (lv' := [(3, .int (-9 : Int32)), (2, .int v5), (0, .ref (lb_ad G 0)), (1, .int x1)]) hx hb dX8_worst_18 rfl hl (by decide) rfl (fun ls hl => ?_)
    refine lv_iconst (v := 0) hx hb dX8_worst_19 rfl ?_
    refine lv_istore (lv' := [(4, .int (0 : Int32)), (3, .int (-9 : Int32)), (2, .int v5), (0, .ref (lb_ad G 0)), (1, .int x1)]) hx hb dX8_worst_20 hl (by decide) rfl (fun ls hl => ?_)
    refine lv_iconst (v := 0) hx hb dX8_worst_22 rfl ?_
    refine lv_istore (lv' := [(5, .int (0 : Int32)), (4, .int (0 : Int32)), (3, .int (-9 : Int32)), (2, .int v5), (0, .ref (lb_ad G 0)), (1, .int x1)]) hx hb dX8_worst_23 hl (by decide) rfl (fun ls hl => ?_)
    exact w_X8_worst_25 X lb_N x1 (-9 : Int32) (0 : Int32) (0 : Int32) σ _ _ _ h hW (lv_sub hl [4, 5, 2, 1, 0] rfl)
  · have h := (if_neg c7).symm.trans h
    refine lv_aload_n hx hb dX8_worst_10 rfl (lv_at hl 1 rfl) ?_
    refine lv_iload_n hx hb dX8_worst_11 rfl (lv_at hl 0 rfl) ?_
    obtain ⟨q12, e12, h⟩ := lb_bind h
    refine rc_X8_122 X hW e12 ⟨⟨rfl, rfl⟩, Nat.le_of_ble_eq_true rfl, Nat.le_of_ble_eq_true rfl⟩ hl.1 (Nat.le_of_ble_eq_true rfl) dX8_worst_12 ⟨Nat.zero_le _, Nat.zero_le _⟩ (fun H locs hW => ?_)
    obtain rfl := Option.some.inj h
    exact lb_iret X hW dX8_worst_15
theorem rc_X8_177 {p : Program} {l : Launch} {e : Env} {R : Room} {s : State} {m : MethodId} {args : Array Value} {below : List Frame} {meth : Method} {c : Code} {H : Heap} {locs : List Loc} {cells slots : Nat} {Q : State → Prop} {cc : ByteArray} {pc nL : Nat} {ls : Array Slot} {rest : List Value} {G : lb_G} {σ : lb_Mem} {ret : Option FieldType} (X : lb_C G p s m args meth c cc nL RX8 ret) (hW : lb_W G s σ H locs) {b0 : Nat} (hb0 : lb_V b0) {x1 : Int32} {x2 : Int32} {qr : Int32} (h : f_X7_canOpen σ b0 x1 x2 = some qr) (hR : lb_room rmX7_canOpen R 3) (hls : ls.size = nL) (hrest : (rest.map fun v => v.category).sum ≤ 8) (d : decode cc pc = .ok (.invokevirtual 177, 3)) (hcap : cells ≤ R.cells ∧ slots ≤ R.slots) (kk : ∀ (H1 : Heap) (locs1 : List Loc), lb_W G s σ H1 locs1 → W p l e R s m args below meth c H1 locs1 cells slots Q (F0 m (pc + 3) ls (.int qr :: rest))) : W p l e R s m args below meth c H locs cells slots Q (F0 m pc ls (.int x2 :: .int x1 :: .ref (lb_ad G b0) :: rest)) :=
  lb_goI hW (lb_runV (As := [.int x1, .int x2]) X hW (m_X7_canOpen l G σ hb0 x1 x2 qr h) (n := 2) ⟨qw_607, qw_44, qw_414, by decide +kernel⟩ hR qw_412 qw_413 (lb_isV hb0) rfl hls hrest d hcap) kk
abbrev rmX8_trust : Room := { frames := 4, cells := 0, slots := 0, locals := 94 }
def f_X8_trust_21 : Nat → Int32 → Int32 → Int32 → lb_Mem → Option (Int32 × lb_Mem)
  | 0, _, _, _, _ => none
  | n + 1, x1, x3, x4, σ => if (σ 1 9) ≤ x4 then some (x3, σ) else (f_X7_canOpen σ 1 x1 x4).bind (fun q40 => if q40 = 0 then f_X8_trust_21 n x1 x3 (x4 + 1) σ else (f_X7_gained σ 1 x4 x1).bind (fun q53 => if q53 ≤ 0 then f_X8_trust_21 n x1 x3 (x4 + 1) σ else f_X8_trust_21 n x1 (x3 + 1) (x4 + 1) σ))
set_option maxRecDepth 20000 in
set_option maxHeartbeats 4000000 in
theorem w_X8_trust_21 {p : Program} {l : Launch} {e : Env} {s : State} {m : MethodId} {args : Array Value} {below : List Frame} {meth : Method} {c : Code} {G : lb_G} {qr : (Int32 × lb_Mem)} (X : lb_C G p s m args meth c cX8_trust 5 RX8 (some .int)) : ∀ (n : Nat) (x1 : Int32) (x3 : Int32) (x4 : Int32) (σ : lb_Mem) (H : Heap) (locs : List Loc) (ls : Array Slot), f_X8_trust_21 n x1 x3 x4 σ = some qr → lb_W G s σ H locs → lv_has ls 5 [(0, .ref (lb_ad G 0)), (1, .int x1), (3, .int x3), (4, .int x4)] → W p l e rmX8_trust s m args below meth c H locs 0 0 (MQ below (lb_QI G qr.1 qr.2) args s 0 0 (lb_A G)) (F0 m 21 ls []) := by
  have hx := X.1
  have hb := X.2.1
  intro n
  induction n with
  | zero => intro x1 x3 x4 σ H locs ls h hW hl; exact absurd h (fun z => by cases z)
  | succ n ih =>
    intro x1 x3 x4 σ H locs ls h hW hl
    have h : (if (σ 1 9) ≤ x4 then some (x3, σ) else (f_X7_canOpen σ 1 x1 x4).bind (fun q40 => if q40 = 0 then f_X8_trust_21 n x1 x3 (x4 + 1) σ else (f_X7_gained σ 1 x4 x1).bind (fun q53 => if q53 ≤ 0 then f_X8_trust_21 n x1 x3 (x4 + 1) σ else f_X8_trust_21 n x1 (x3 + 1) (x4 + 1) σ))) = some qr := h
    refine lv_iload hx hb dX8_trust_21 (lv_at hl 3 rfl) ?_
    refine lv_aload_n hx hb dX8_trust_23 rfl (lv_at hl 0 rfl) ?_
    refine rg_X8_10 X hW dX8_trust_24 ?_
    refine rg_X8_165 X hW lb_V1 dX8_trust_27 ?_
    refine lv_icmp_ge (tgt := 68) hx hb dX8_trust_30 (by decide) (fun c30 => ?_) (fun c30 => ?_)
    · have h := (if_pos c30).symm.trans h
      refine lv_iload_n hx hb dX8_trust_68 rfl (lv_at hl 2 rfl) ?_
      obtain rfl := Option.some.inj h
      exact lb_iret X hW dX8_trust_69
    · have h := (if_neg c30).symm.trans h
      refine lv_aload_n hx hb dX8_trust_33 rfl (lv_at hl 0 rfl) ?_
      refine rg_X8_10 X hW dX8_trust_34 ?_
      refine lv_iload_n hx hb dX8_trust_37 rfl (lv_at hl 1 rfl) ?_
      refine lv_iload hx hb dX8_trust_38 (lv_at hl 3 rfl) ?_
      obtain ⟨q40, e40, h⟩ := lb_bind h
      refine rc_X8_177 X hW lb_V1 e40 ⟨⟨rfl, rfl⟩, Nat.le_of_ble_eq_true rfl, Nat.le_of_ble_eq_true rfl⟩ hl.1 (Nat.le_of_ble_eq_true rfl) dX8_trust_40 ⟨Nat.zero_le _, Nat.zero_le _⟩ (fun H locs hW => ?_)
      refine lv_if_eq (tgt := 62) hx hb dX8_trust_43 (by decide) (fun c43 => ?_) (fun c43 => ?_)
      · have h := (if_pos c43).symm.trans h
        refine lv_iinc (v := (x4 + 1)) (lv' := [(4, .int (x4 + 1)), (0, .ref (lb_ad G 0)), (1, .int x1), (3, .int x3)]) hx hb dX8_trust_62 hl (k := 3) rfl rfl (by decide) rfl (fun ls hl => ?_)
        refine lv_goto (tgt := 21) hx hb dX8_trust_65 (by decide) ?_
        exact ih x1 x3 (x4 + 1) σ _ _ _ h hW (lv_sub hl [1, 2, 3, 0] rfl)
      · have h := (if_neg c43).symm.trans h
        refine lv_aload_n hx hb dX8_trust_46 rfl (lv_at hl 0 rfl) ?_
        refine rg_X8_10 X hW dX8_trust_47 ?_
        refine lv_iload hx hb dX8_trust_50 (lv_at hl 3 rfl) ?_
        refine lv_iload_n hx hb dX8_trust_52 rfl (lv_at hl 1 rfl) ?_
        obtain ⟨q53, e53, h⟩ := lb_bind h
        refine rc_X8_125 X hW lb_V1 e53 ⟨⟨rfl, rfl⟩, Nat.le_of_ble_eq_true rfl, Nat.le_of_ble_eq_true rfl⟩ hl.1 (Nat.le_of_ble_eq_true rfl) dX8_trust_53 ⟨Nat.zero_le _, Nat.zero_le _⟩ (fun H locs hW => ?_)
        refine lv_if_le (tgt := 62) hx hb dX8_trust_56 (by decide) (fun c56 => ?_) (fun c56 => ?_)
        · have h := (if_pos c56).symm.trans h
          refine lv_iinc (v := (x4 + 1)) (lv' := [(4, .int (x4 + 1)), (0, .ref (lb_ad G 0)), (1, .int x1), (3, .int x3)]) hx hb dX8_trust_62 hl (k := 3) rfl rfl (by decide) rfl (fun ls hl => ?_)
          refine lv_goto (tgt := 21) hx hb dX8_trust_65 (by decide) ?_
          exact ih x1 x3 (x4 + 1) σ _ _ _ h hW (lv_sub hl [1, 2, 3, 0] rfl)
        · have h := (if_neg c56).symm.trans h
          refine lv_iinc (v := (x3 + 1)) (lv' := [(3, .int (x3 + 1)), (0, .ref (lb_ad G 0)), (1, .int x1), (4, .int x4)]) hx hb dX8_trust_59 hl (k := 2) rfl rfl (by decide) rfl (fun ls hl => ?_)
          refine lv_iinc (v := (x4 + 1)) (lv' := [(4, .int (x4 + 1)), (3, .int (x3 + 1)), (0, .ref (lb_ad G 0)), (1, .int x1)]) hx hb dX8_trust_62 hl (k := 3) rfl rfl (by decide) rfl (fun ls hl => ?_)
          refine lv_goto (tgt := 21) hx hb dX8_trust_65 (by decide) ?_
          exact ih x1 (x3 + 1) (x4 + 1) σ _ _ _ h hW (lv_sub hl [2, 3, 1, 0] rfl)
def f_X8_trust (x1 : Int32) (σ : lb_Mem) : Option (Int32 × lb_Mem) := lb_let ((f_X8_personThere σ x1)) (fun v5 : Int32 => if v5 = 0 then f_X8_trust_21 lb_N x1 (0 : Int32) (0 : Int32) σ else (f_X8_refuse v5 σ).bind (fun q12 => some (q12.1, q12.2)))
set_option maxRecDepth 20000 in
set_option maxHeartbeats 4000000 in
theorem m_X8_trust (l : Launch) (G : lb_G) (σ : lb_Mem) (x1 : Int32) (qr : (Int32 × lb_Mem)) (h : f_X8_trust x1 σ = some qr) : lb_M l yX8_trust cX8_trust 5 (some .int) rmX8_trust [.ref (lb_ad G 0), .int x1] G σ (lb_QI G qr.1 qr.2) := by
  refine lb_start RX8 (by decide +kernel) rfl (Nat.le_of_ble_eq_true rfl) (fun p e s m below meth c X hW ls hl => ?_)
  have hx := X.1
  have hb := X.2.1
  have hl : lv_has ls 5 [(0, .ref (lb_ad G 0)), (1, .int x1)] := hl
  have h : (lb_let ((f_X8_personThere σ x1)) (fun v5 : Int32 => if v5 = 0 then f_X8_trust_21 lb_N x1 (0 : Int32) (0 : Int32) σ else (f_X8_refuse v5 σ).bind (fun q12 => some (q12.1, q12.2)))) = some qr := h
  skip
  refine lv_aload_n hx hb dX8_trust_0 rfl (lv_at hl 0 rfl) ?_
  refine lv_iload_n hx hb dX8_trust_1 rfl (lv_at hl 1 rfl) ?_
  refine rc_X8_107 X hW x1 ⟨⟨rfl, rfl⟩, Nat.le_of_ble_eq_true rfl, Nat.le_of_ble_eq_true rfl⟩ hl.1 (Nat.le_of_ble_eq_true rfl) dX8_trust_2 ⟨Nat.zero_le _, Nat.zero_le _⟩ (fun H locs hW => ?_)
  refine lv_topi (fun v5 e5 => ?_)
  have h := lb_letI e5 h
  refine lv_istore_n (lv' := [(2, .int v5), (0, .ref (lb_ad G 0)), (1, .int x1)]) hx hb dX8_trust_5 rfl hl (by decide) rfl (fun ls hl => ?_)
  refine lv_iload_n hx hb dX8_trust_6 rfl (lv_at hl 0 rfl) ?_
  refine lv_if_eq (tgt := 16) hx hb dX8_trust_7 (by decide) (fun c7 => ?_) (fun c7 => ?_)
  · have h := (if_pos c7).symm.trans h
    refine lv_iconst (v := 0) hx hb dX8_trust_16 rfl ?_
    refine lv_istore_n (lv' := [(3, .int (0 : Int32)), (2, .int v5), (0, .ref (lb_ad G 0)), (1, .int x1)]) hx hb dX8_trust_17 rfl hl (by decide) rfl (fun ls hl => ?_)
    refine lv_iconst (v := 0) hx hb dX8_trust_18 rfl ?_
    refine lv_istore (lv' := [(4, .int (0 : Int32)), (3, .int (0 : Int32)), (2, .int v5), (0, .ref (lb_ad G 0)), (1, .int x1)]) hx hb dX8_trust_19 hl (by decide) rfl (fun ls hl => ?_)
    exact w_X8_trust_21 X lb_N x1 (0 : Int32) (0 : Int32) σ _ _ _ h hW (lv_sub hl [3, 4, 1, 0] rfl)
  · have h := (if_neg c7).symm.trans h
    refine lv_aload_n hx hb dX8_trust_10 rfl (lv_at hl 1 rfl) ?_
    refine lv_iload_n hx hb dX8_trust_11 rfl (lv_at hl 0 rfl) ?_
    obtain ⟨q12, e12, h⟩ := lb_bind h
    refine rc_X8_55 X hW e12 ⟨⟨rfl, rfl⟩, Nat.le_of_ble_eq_true rfl, Nat.le_of_ble_eq_true rfl⟩ hl.1 (Nat.le_of_ble_eq_true rfl) dX8_trust_12 ⟨Nat.zero_le _, Nat.zero_le _⟩ (fun H locs hW => ?_)
    obtain rfl := Option.some.inj h
    exact lb_iret X hW dX8_trust_15
