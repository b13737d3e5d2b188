abbrev rmX8_isBetterWithout : Room := { frames := 6, cells := 0, slots := 0, locals := 142 }
def f_X8_isBetterWithout (x1 : Int32) (x2 : Int32) (σ : lb_Mem) : Option (Int32 × lb_Mem) := (f_X8_ownersGraceWithout x1 x2 σ).bind (fun q3 => lb_chk (lb_ix x1 8) ((f_X8_graceBehind (q3.2 14 x1.toNatClampNeg) x2 q3.2).bind (fun q17 => if q3.1 ≤ q17.1 then some ((0 : Int32), q17.2) else some ((1 : Int32), q17.2))))
set_option maxRecDepth 20000 in
set_option maxHeartbeats 4000000 in
theorem m_X8_isBetterWithout (l : Launch) (G : lb_G) (σ : lb_Mem) (x1 : Int32) (x2 : Int32) (qr : (Int32 × lb_Mem)) (h : f_X8_isBetterWithout x1 x2 σ = some qr) : lb_M l yX8_isBetterWithout cX8_isBetterWithout 3 (some .boolean) rmX8_isBetterWithout [.ref (lb_ad G 0), .int x1, .int x2] G σ (lb_QI G qr.1 qr.2) := by
  refine lb_start RX8 (by decide +kernel) rfl (Nat.le_of_ble_eq_true rfl) (fun p e s m below meth c X hW ls hl => ?_)
  have hx := X.1
  have hb := X.2.1
  have hl : lv_has ls 3 [(0, .ref (lb_ad G 0)), (1, .int x1), (2, .int x2)] := hl
  have h : ((f_X8_ownersGraceWithout x1 x2 σ).bind (fun q3 => lb_chk (lb_ix x1 8) ((f_X8_graceBehind (q3.2 14 x1.toNatClampNeg) x2 q3.2).bind (fun q17 => if q3.1 ≤ q17.1 then some ((0 : Int32), q17.2) else some ((1 : Int32), q17.2))))) = some qr := h
  skip
  refine lv_aload_n hx hb dX8_isBetterWithout_0 rfl (lv_at hl 0 rfl) ?_
  refine lv_iload_n hx hb dX8_isBetterWithout_1 rfl (lv_at hl 1 rfl) ?_
  refine lv_iload_n hx hb dX8_isBetterWithout_2 rfl (lv_at hl 2 rfl) ?_
  obtain ⟨q3, e3, h⟩ := lb_bind h
  refine rc_X8_205 X hW e3 ⟨⟨rfl, rfl⟩, Nat.le_of_ble_eq_true rfl, Nat.le_of_ble_eq_true rfl⟩ hl.1 (Nat.le_of_ble_eq_true rfl) dX8_isBetterWithout_3 ⟨Nat.zero_le _, Nat.zero_le _⟩ (fun H locs hW => ?_)
  refine lv_aload_n hx hb dX8_isBetterWithout_6 rfl (lv_at hl 0 rfl) ?_
  refine lv_aload_n hx hb dX8_isBetterWithout_7 rfl (lv_at hl 0 rfl) ?_
  refine rg_X8_10 X hW dX8_isBetterWithout_8 ?_
  refine rg_X8_104 (k := 14) X hW lb_V1 rfl dX8_isBetterWithout_11 ?_
  refine lv_iload_n hx hb dX8_isBetterWithout_14 rfl (lv_at hl 1 rfl) ?_
  obtain ⟨i15, h⟩ := lb_chk_in h
  refine lb_ild X hW (show lb_ar 14 = 7 + 1 from rfl) i15 dX8_isBetterWithout_15 ?_
  refine lv_iload_n hx hb dX8_isBetterWithout_16 rfl (lv_at hl 2 rfl) ?_
  obtain ⟨q17, e17, h⟩ := lb_bind h
  refine rc_X8_202 X hW e17 ⟨⟨rfl, rfl⟩, Nat.le_of_ble_eq_true rfl, Nat.le_of_ble_eq_true rfl⟩ hl.1 (Nat.le_of_ble_eq_true rfl) dX8_isBetterWithout_17 ⟨Nat.zero_le _, Nat.zero_le _⟩ (fun H locs hW => ?_)
  refine lv_icmp_le (tgt := 27) hx hb dX8_isBetterWithout_20 (by decide) (fun c20 => ?_) (fun c20 => ?_)
  · have h := (if_pos c20).symm.trans h
    refine lv_iconst (v := 0) hx hb dX8_isBetterWithout_27 rfl ?_
    obtain rfl := Option.some.inj h
    exact lb_zret X hW (Or.inl rfl) dX8_isBetterWithout_28
  · have h := (if_neg c20).symm.trans h
    refine lv_iconst (v := 1) hx hb dX8_isBetterWithout_23 rfl ?_
    refine lv_goto (tgt := 28) hx hb dX8_isBetterWithout_24 (by decide) ?_
    obtain rfl := Option.some.inj h
    exact lb_zret X hW (Or.inr rfl) dX8_isBetterWithout_28
theorem rc_X8_208 {p : Program} {l : Launch} {e : Env} {R : Room} {s : State} {m : MethodId} {args : Array Value} {below : List Frame} {meth : Method} {c : Code} {H : Heap} {locs : List Loc} {cells slots : Nat} {Q : State → Prop} {cc : ByteArray} {pc nL : Nat} {ls : Array Slot} {rest : List Value} {G : lb_G} {σ : lb_Mem} {ret : Option FieldType} (X : lb_C G p s m args meth c cc nL RX8 ret) (hW : lb_W G s σ H locs) {x1 : Int32} {x2 : Int32} {qr : (Int32 × lb_Mem)} (h : f_X8_isBetterWithout x1 x2 σ = some qr) (hR : lb_room rmX8_isBetterWithout R 3) (hls : ls.size = nL) (hrest : (rest.map fun v => v.category).sum ≤ 8) (d : decode cc pc = .ok (.invokevirtual 208, 3)) (hcap : cells ≤ R.cells ∧ slots ≤ R.slots) (kk : ∀ (H1 : Heap) (locs1 : List Loc), lb_W G s qr.2 H1 locs1 → W p l e R s m args below meth c H1 locs1 cells slots Q (F0 m (pc + 3) ls (.int qr.1 :: rest))) : W p l e R s m args below meth c H locs cells slots Q (F0 m pc ls (.int x2 :: .int x1 :: .ref (lb_ad G 0) :: rest)) :=
  lb_goI hW (lb_runV (As := [.int x1, .int x2]) X hW (m_X8_isBetterWithout l G σ x1 x2 qr h) (n := 2) ⟨qw_670, qw_43, qw_673, by decide +kernel⟩ hR qw_672 qw_13 lb_is0 rfl hls hrest d hcap) kk
abbrev rmX8_two : Room := { frames := 7, cells := 0, slots := 0, locals := 164 }
def f_X8_two_117 (x2 : Int32) (x3 : Int32) (σ : lb_Mem) (y0 : Int32) (y1 : Int32) : Option (Int32 × lb_Mem) := (f_X8_isBetterWithout x2 x3 σ).bind (fun q121 => if q121.1 = 0 then some (((y0 * y1) + (0 : Int32)), q121.2) else some (((y0 * y1) + (1 : Int32)), q121.2))
set_option maxRecDepth 20000 in
set_option maxHeartbeats 4000000 in
theorem w_X8_two_117 {p : Program} {l : Launch} {e : Env} {s : State} {m : MethodId} {args : Array Value} {below : List Frame} {meth : Method} {c : Code} {G : lb_G} {qr : (Int32 × lb_Mem)} (X : lb_C G p s m args meth c cX8_two 5 RX8 (some .int)) : ∀ (x2 : Int32) (x3 : Int32) (σ : lb_Mem) (y0 : Int32) (y1 : Int32) (H : Heap) (locs : List Loc) (ls : Array Slot), f_X8_two_117 x2 x3 σ y0 y1 = some qr → lb_W G s σ H locs → lv_has ls 5 [(0, .ref (lb_ad G 0)), (2, .int x2), (3, .int x3)] → W p l e rmX8_two s m args below meth c H locs 0 0 (MQ below (lb_QI G qr.1 qr.2) args s 0 0 (lb_A G)) (F0 m 117 ls [.int y1, .int y0]) := by
  have hx := X.1
  have hb := X.2.1
  intro x2 x3 σ y0 y1 H locs ls h hW hl
  have h : ((f_X8_isBetterWithout x2 x3 σ).bind (fun q121 => if q121.1 = 0 then some (((y0 * y1) + (0 : Int32)), q121.2) else some (((y0 * y1) + (1 : Int32)), q121.2))) = some qr := h
  refine lv_imul hx hb dX8_two_117 ?_
  refine lv_aload_n hx hb dX8_two_118 rfl (lv_at hl 0 rfl) ?_
  refine lv_iload_n hx hb dX8_two_119 rfl (lv_at hl 1 rfl) ?_
  refine lv_iload_n hx hb dX8_two_120 rfl (lv_at hl 2 rfl) ?_
  obtain ⟨q121, e121, h⟩ := lb_bind h
  refine rc_X8_208 X hW e121 ⟨⟨rfl, rfl⟩, Nat.le_of_ble_eq_true rfl, Nat.le_of_ble_eq_true rfl⟩ hl.1 (Nat.le_of_ble_eq_true rfl) dX8_two_121 ⟨Nat.zero_le _, Nat.zero_le _⟩ (fun H locs hW => ?_)
  refine lv_if_eq (tgt := 131) hx hb dX8_two_124 (by decide) (fun c124 => ?_) (fun c124 => ?_)
  · have h := (if_pos c124).symm.trans h
    refine lv_iconst (v := 0) hx hb dX8_two_131 rfl ?_
    refine lv_iadd hx hb dX8_two_132 ?_
    obtain rfl := Option.some.inj h
    exact lb_iret X hW dX8_two_133
  · have h := (if_neg c124).symm.trans h
    refine lv_iconst (v := 1) hx hb dX8_two_127 rfl ?_
    refine lv_goto (tgt := 132) hx hb dX8_two_128 (by decide) ?_
    refine lv_iadd hx hb dX8_two_132 ?_
    obtain rfl := Option.some.inj h
    exact lb_iret X hW dX8_two_133
def f_X8_two_89 (x1 : Int32) (x2 : Int32) (x3 : Int32) (x4 : Int32) (σ : lb_Mem) : Option (Int32 × lb_Mem) := if x4 = 0 then (f_X8_isBetterWithout x1 x3 σ).bind (fun q106 => if q106.1 = 0 then f_X8_two_117 x2 x3 q106.2 (10 : Int32) (0 : Int32) else f_X8_two_117 x2 x3 q106.2 (10 : Int32) (1 : Int32)) else (f_X8_refuse x4 σ).bind (fun q97 => some (q97.1, q97.2))
set_option maxRecDepth 20000 in
set_option maxHeartbeats 4000000 in
theorem w_X8_two_89 {p : Program} {l : Launch} {e : Env} {s : State} {m : MethodId} {args : Array Value} {below : List Frame} {meth : Method} {c : Code} {G : lb_G} {qr : (Int32 × lb_Mem)} (X : lb_C G p s m args meth c cX8_two 5 RX8 (some .int)) : ∀ (x1 : Int32) (x2 : Int32) (x3 : Int32) (x4 : Int32) (σ : lb_Mem) (H : Heap) (locs : List Loc) (ls : Array Slot), f_X8_two_89 x1 x2 x3 x4 σ = some qr → lb_W G s σ H locs → lv_has ls 5 [(0, .ref (lb_ad G 0)), (1, .int x1), (2, .int x2), (3, .int x3), (4, .int x4)] → W p l e rmX8_two s m args below meth c H locs 0 0 (MQ below (lb_QI G qr.1 qr.2) args s 0 0 (lb_A G)) (F0 m 89 ls []) := by
  have hx := X.1
  have hb := X.2.1
  intro x1 x2 x3 x4 σ H locs ls h hW hl
  have h : (if x4 = 0 then (f_X8_isBetterWithout x1 x3 σ).bind (fun q106 => if q106.1 = 0 then f_X8_two_117 x2 x3 q106.2 (10 : Int32) (0 : Int32) else f_X8_two_117 x2 x3 q106.2 (10 : Int32) (1 : Int32)) else (f_X8_refuse x4 σ).bind (fun q97 => some (q97.1, q97.2))) = some qr := h
  refine lv_iload hx hb dX8_two_89 (lv_at hl 4 rfl) ?_
  refine lv_if_eq (tgt := 101) hx hb dX8_two_91 (by decide) (fun c91 => ?_) (fun c91 => ?_)
  · have h := (if_pos c91).symm.trans h
    refine lv_bipush (v := 10) hx hb dX8_two_101 rfl ?_
    refine lv_aload_n hx hb dX8_two_103 rfl (lv_at hl 0 rfl) ?_
    refine lv_iload_n hx hb dX8_two_104 rfl (lv_at hl 1 rfl) ?_
    refine lv_iload_n hx hb dX8_two_105 rfl (lv_at hl 3 rfl) ?_
    obtain ⟨q106, e106, h⟩ := lb_bind h
    refine rc_X8_208 X hW e106 ⟨⟨rfl, rfl⟩, Nat.le_of_ble_eq_true rfl, Nat.le_of_ble_eq_true rfl⟩ hl.1 (Nat.le_of_ble_eq_true rfl) dX8_two_106 ⟨Nat.zero_le _, Nat.zero_le _⟩ (fun H locs hW => ?_)
    refine lv_if_eq (tgt := 116) hx hb dX8_two_109 (by decide) (fun c109 => ?_) (fun c109 => ?_)
    · have h := (if_pos c109).symm.trans h
      refine lv_iconst (v := 0) hx hb dX8_two_116 rfl ?_
      exact w_X8_two_117 X x2 x3 q106.2 (10 : Int32) (0 : Int32) _ _ _ h hW (lv_sub hl [0, 2, 3] rfl)
    · have h := (if_neg c109).symm.trans h
      refine lv_iconst (v := 1) hx hb dX8_two_112 rfl ?_
      refine lv_goto (tgt := 117) hx hb dX8_two_113 (by decide) ?_
      exact w_X8_two_117 X x2 x3 q106.2 (10 : Int32) (1 : Int32) _ _ _ h hW (lv_sub hl [0, 2, 3] rfl)
  · have h := (if_neg c91).symm.trans h
    refine lv_aload_n hx hb dX8_two_94 rfl (lv_at hl 0 rfl) ?_
    refine lv_iload hx hb dX8_two_95 (lv_at hl 4 rfl) ?_
    obtain ⟨q97, e97, h⟩ := lb_bind h
    refine rc_X8_55 X hW e97 ⟨⟨rfl, rfl⟩, Nat.le_of_ble_eq_true rfl, Nat.le_of_ble_eq_true rfl⟩ hl.1 (Nat.le_of_ble_eq_true rfl) dX8_two_97 ⟨Nat.zero_le _, Nat.zero_le _⟩ (fun H locs hW => ?_)
    obtain rfl := Option.some.inj h
    exact lb_iret X hW dX8_two_100
def f_X8_two_85 (x1 : Int32) (x2 : Int32) (x3 : Int32) (σ : lb_Mem) : Option (Int32 × lb_Mem) := f_X8_two_89 x1 x2 x3 (-3 : Int32) σ
set_option maxRecDepth 20000 in
set_option maxHeartbeats 4000000 in
theorem w_X8_two_85 {p : Program} {l : Launch} {e : Env} {s : State} {m : MethodId} {args : Array Value} {below : List Frame} {meth : Method} {c : Code} {G : lb_G} {qr : (Int32 × lb_Mem)} (X : lb_C G p s m args meth c cX8_two 5 RX8 (some .int)) : ∀ (x1 : Int32) (x2 : Int32) (x3 : Int32) (σ : lb_Mem) (H : Heap) (locs : List Loc) (ls : Array Slot), f_X8_two_85 x1 x2 x3 σ = some qr → lb_W G s σ H locs → lv_has ls 5 [(0, .ref (lb_ad G 0)), (1, .int x1), (2, .int x2), (3, .int x3)] → W p l e rmX8_two s m args below meth c H locs 0 0 (MQ below (lb_QI G qr.1 qr.2) args s 0 0 (lb_A G)) (F0 m 85 ls []) := by
  have hx := X.1
  have hb := X.2.1
  intro x1 x2 x3 σ H locs ls h hW hl
  have h : (f_X8_two_89 x1 x2 x3 (-3 : Int32) σ) = some qr := h
  refine lv_bipush (v := -3) hx hb dX8_two_85 rfl ?_
  refine lv_istore (lv' := [(4, .int (-3 : Int32)), (0, .ref (lb_ad G 0)), (1, .int x1), (2, .int x2), (3, .int x3)]) hx hb dX8_two_87 hl (by decide) rfl (fun ls hl => ?_)
  exact w_X8_two_89 X x1 x2 x3 (-3 : Int32) σ _ _ _ h hW (lv_sub hl [1, 2, 3, 4, 0] rfl)
def f_X8_two_20 (x1 : Int32) (x2 : Int32) (x3 : Int32) (σ : lb_Mem) (y0 : Int32) (y1 : Int32) (y2 : Int32) : Option (Int32 × lb_Mem) := lb_let ((f_X8_first (f_X8_first_ y0 y1 y2) (f_X8_within x3 (0 : Int32) (30 : Int32)))) (fun v33 : Int32 => if v33 = 0 then lb_chk (lb_ix x1 8) (if (σ 13 x1.toNatClampNeg) = 0 then f_X8_two_85 x1 x2 x3 σ else lb_chk (lb_ix x2 8) (if (σ 13 x2.toNatClampNeg) = 0 then f_X8_two_85 x1 x2 x3 σ else lb_chk (lb_ix x1 8) (lb_chk (lb_ix x2 8) (if (σ 14 x1.toNatClampNeg) = (σ 14 x2.toNatClampNeg) then f_X8_two_85 x1 x2 x3 σ else f_X8_two_89 x1 x2 x3 v33 σ)))) else f_X8_two_89 x1 x2 x3 v33 σ)
set_option maxRecDepth 20000 in
set_option maxHeartbeats 4000000 in
theorem w_X8_two_20 {p : Program} {l : Launch} {e : Env} {s : State} {m : MethodId} {args : Array Value} {below : List Frame} {meth : Method} {c : Code} {G : lb_G} {qr : (Int32 × lb_Mem)} (X : lb_C G p s m args meth c cX8_two 5 RX8 (some .int)) : ∀ (x1 : Int32) (x2 : Int32) (x3 : Int32) (σ : lb_Mem) (y0 : Int32) (y1 : Int32) (y2 : Int32) (H : Heap) (locs : List Loc) (ls : Array Slot), f_X8_two_20 x1 x2 x3 σ y0 y1 y2 = some qr → lb_W G s σ H locs → lv_has ls 5 [(0, .ref (lb_ad G 0)), (1, .int x1), (2, .int x2), (3, .int x3)] → W p l e rmX8_two s m args below meth c H locs 0 0 (MQ below (lb_QI G qr.1 qr.2) args s 0 0 (lb_A G)) (F0 m 20 ls [.int y2, .int y1, .int y0]) := by
  have hx := X.1
  have hb := X.2.1
  intro x1 x2 x3 σ y0 y1 y2 H locs ls h hW hl
  have h : (lb_let ((f_X8_first (f_X8_first_ y0 y1 y2) (f_X8_within x3 (0 : Int32) (30 : Int32)))) (fun v33 : Int32 => if v33 = 0 then lb_chk (lb_ix x1 8) (if (σ 13 x1.toNatClampNeg) = 0 then f_X8_two_85 x1 x2 x3 σ else lb_chk (lb_ix x2 8) (if (σ 13 x2.toNatClampNeg) = 0 then f_X8_two_85 x1 x2 x3 σ else lb_chk (lb_ix x1 8) (lb_chk (lb_ix x2 8) (if (σ 14 x1.toNatClampNeg) = (σ 14 x2.toNatClampNeg) then f_X8_two_85 x1 x2 x3 σ else f_X8_two_89 x1 x2 x3 v33 σ)))) else f_X8_two_89 x1 x2 x3 v33 σ)) = some qr := h
  refine rc_X8_135 X hW y0 y1 y2 ⟨⟨rfl, rfl⟩, Nat.le_of_ble_eq_true rfl, Nat.le_of_ble_eq_true rfl⟩ hl.1 (Nat.le_of_ble_eq_true rfl) dX8_two_20 ⟨Nat.zero_le _, Nat.zero_le _⟩ (fun H locs hW => ?_)
  refine lv_iload_n hx hb dX8_two_23 rfl (lv_at hl 3 rfl) ?_
  refine lv_iconst (v := 0) hx hb dX8_two_24 rfl ?_
  refine lv_bipush (v := 30) hx hb dX8_two_25 rfl ?_
  refine rc_X8_44 X hW x3 (0 : Int32) (30 : Int32) ⟨⟨rfl, rfl⟩, Nat.le_of_ble_eq_true rfl, Nat.le_of_ble_eq_true rfl⟩ hl.1 (Nat.le_of_ble_eq_true rfl) dX8_two_27 ⟨Nat.zero_le _, Nat.zero_le _⟩ (fun H locs hW => ?_)
  refine rc_X8_51 X hW (f_X8_first_ y0 y1 y2) (f_X8_within x3 (0 : Int32) (30 : Int32)) ⟨⟨rfl, rfl⟩, Nat.le_of_ble_eq_true rfl, Nat.le_of_ble_eq_true rfl⟩ hl.1 (Nat.le_of_ble_eq_true rfl) dX8_two_30 ⟨Nat.zero_le _, Nat.zero_le _⟩ (fun H locs hW => ?_)
  refine lv_topi (fun v33 e33 => ?_)
  have h := lb_letI e33 h
  refine lv_istore (lv' := [(4, .int v33), (0, .ref (lb_ad G 0)), (1, .int x1), (2, .int x2), (3, .int x3)]) hx hb dX8_two_33 hl (by decide) rfl (fun ls hl => ?_)
  refine lv_iload hx hb dX8_two_35 (lv_at hl 0 rfl) ?_
  refine lv_if_ne (tgt := 89) hx hb dX8_two_37 (by decide) (fun c37 => ?_) (fun c37 => ?_)
  · have h := (if_neg c37).symm.trans h
    exact w_X8_two_89 X x1 x2 x3 v33 σ _ _ _ h hW (lv_sub hl [1, 2, 3, 4, 0] rfl)
  · have h := (if_pos c37).symm.trans h
    refine lv_aload_n hx hb dX8_two_40 rfl (lv_at hl 1 rfl) ?_
    refine rg_X8_10 X hW dX8_two_41 ?_
    refine rg_X8_101 (k := 13) X hW lb_V1 rfl dX8_two_44 ?_
    refine lv_iload_n hx hb dX8_two_47 rfl (lv_at hl 2 rfl) ?_
    obtain ⟨i48, h⟩ := lb_chk_in h
    refine lb_ild X hW (show lb_ar 13 = 7 + 1 from rfl) i48 dX8_two_48 ?_
    refine lv_if_eq (tgt := 85) hx hb dX8_two_49 (by decide) (fun c49 => ?_) (fun c49 => ?_)
    · have h := (if_pos c49).symm.trans h
      exact w_X8_two_85 X x1 x2 x3 σ _ _ _ h hW (lv_sub hl [1, 2, 3, 4] rfl)
    · have h := (if_neg c49).symm.trans h
      refine lv_aload_n hx hb dX8_two_52 rfl (lv_at hl 1 rfl) ?_
      refine rg_X8_10 X hW dX8_two_53 ?_
      refine rg_X8_101 (k := 13) X hW lb_V1 rfl dX8_two_56 ?_
      refine lv_iload_n hx hb dX8_two_59 rfl (lv_at hl 3 rfl) ?_
      obtain ⟨i60, h⟩ := lb_chk_in h
      refine lb_ild X hW (show lb_ar 13 = 7 + 1 from rfl) i60 dX8_two_60 ?_
      refine lv_if_eq (tgt := 85) hx hb dX8_two_61 (by decide) (fun c61 => ?_) (fun c61 => ?_)
      · have h := (if_pos c61).symm.trans h
        exact w_X8_two_85 X x1 x2 x3 σ _ _ _ h hW (lv_sub hl [1, 2, 3, 4] rfl)
      · have h := (if_neg c61).symm.trans h
        refine lv_aload_n hx hb dX8_two_64 rfl (lv_at hl 1 rfl) ?_
        refine rg_X8_10 X hW dX8_two_65 ?_
        refine rg_X8_104 (k := 14) X hW lb_V1 rfl dX8_two_68 ?_
        refine lv_iload_n hx hb dX8_two_71 rfl (lv_at hl 2 rfl) ?_
        obtain ⟨i72, h⟩ := lb_chk_in h
        refine lb_ild X hW (show lb_ar 14 = 7 + 1 from rfl) i72 dX8_two_72 ?_
        refine lv_aload_n hx hb dX8_two_73 rfl (lv_at hl 1 rfl) ?_
        refine rg_X8_10 X hW dX8_two_74 ?_
        refine rg_X8_104 (k := 14) X hW lb_V1 rfl dX8_two_77 ?_
        refine lv_iload_n hx hb dX8_two_80 rfl (lv_at hl 3 rfl) ?_
        obtain ⟨i81, h⟩ := lb_chk_in h
        refine lb_ild X hW (show lb_ar 14 = 7 + 1 from rfl) i81 dX8_two_81 ?_
        refine lv_icmp_ne (tgt := 89) hx hb dX8_two_82 (by decide) (fun c82 => ?_) (fun c82 => ?_)
        · have h := (if_neg c82).symm.trans h
          exact w_X8_two_89 X x1 x2 x3 v33 σ _ _ _ h hW (lv_sub hl [1, 2, 3, 4, 0] rfl)
        · have h := (if_pos c82).symm.trans h
          exact w_X8_two_85 X x1 x2 x3 σ _ _ _ h hW (lv_sub hl [1, 2, 3, 4] rfl)
def f_X8_two (x1 : Int32) (x2 : Int32) (x3 : Int32) (σ : lb_Mem) : Option (Int32 × lb_Mem) := if x1 = x2 then f_X8_two_20 x1 x2 x3 σ (f_X8_potThere σ x1) (f_X8_potThere σ x2) (-1 : Int32) else f_X8_two_20 x1 x2 x3 σ (f_X8_potThere σ x1) (f_X8_potThere σ x2) (0 : Int32)
set_option maxRecDepth 20000 in
set_option maxHeartbeats 4000000 in
theorem m_X8_two (l : Launch) (G : lb_G) (σ : lb_Mem) (x1 : Int32) (x2 : Int32) (x3 : Int32) (qr : (Int32 × lb_Mem)) (h : f_X8_two x1 x2 x3 σ = some qr) : lb_M l yX8_two cX8_two 5 (some .int) rmX8_two [.ref (lb_ad G 0), .int x1, .int x2, .int x3] G σ (lb_QI G qr.1 qr.2) := by
  refine lb_start RX8 (by decide +kernel) rfl (Nat.le_of_ble_eq_true rfl) (fun p e s m below meth c X hW ls hl => ?_)
  have hx := X.1
  have hb := X.2.1
  have hl : lv_has ls 5 [(0, .ref (lb_ad G 0)), (1, .int x1), (2, .int x2), (3, .int x3)] := hl
  have h : (if x1 = x2 then f_X8_two_20 x1 x2 x3 σ (f_X8_potThere σ x1) (f_X8_potThere σ x2) (-1 : Int32) else f_X8_two_20 x1 x2 x3 σ (f_X8_potThere σ x1) (f_X8_potThere σ x2) (0 : Int32)) = some qr := h
  skip
  refine lv_aload_n hx hb dX8_two_0 rfl (lv_at hl 0 rfl) ?_
  refine lv_iload_n hx hb dX8_two_1 rfl (lv_at hl 1 rfl) ?_
  refine rc_X8_83 X hW x1 ⟨⟨rfl, rfl⟩, Nat.le_of_ble_eq_true rfl, Nat.le_of_ble_eq_true rfl⟩ hl.1 (Nat.le_of_ble_eq_true rfl) dX8_two_2 ⟨Nat.zero_le _, Nat.zero_le _⟩ (fun H locs hW => ?_)
  refine lv_aload_n hx hb dX8_two_5 rfl (lv_at hl 0 rfl) ?_
  refine lv_iload_n hx hb dX8_two_6 rfl (lv_at hl 2 rfl) ?_
  refine rc_X8_83 X hW x2 ⟨⟨rfl, rfl⟩, Nat.le_of_ble_eq_true rfl, Nat.le_of_ble_eq_true rfl⟩ hl.1 (Nat.le_of_ble_eq_true rfl) dX8_two_7 ⟨Nat.zero_le _, Nat.zero_le _⟩ (fun H locs hW => ?_)
  refine lv_iload_n hx hb dX8_two_10 rfl (lv_at hl 1 rfl) ?_
  refine lv_iload_n hx hb dX8_two_11 rfl (lv_at hl 2 rfl) ?_
  refine lv_icmp_ne (tgt := 19) hx hb dX8_two_12 (by decide) (fun c12 => ?_) (fun c12 => ?_)
  · have h := (if_neg c12).symm.trans h
    refine lv_iconst (v := 0) hx hb dX8_two_19 rfl ?_
    exact w_X8_two_20 X x1 x2 x3 σ (f_X8_potThere σ x1) (f_X8_potThere σ x2) (0 : Int32) _ _ _ h hW (lv_sub hl [0, 1, 2, 3] rfl)
  · have h := (if_pos c12).symm.trans h
    refine lv_iconst (v := -1) hx hb dX8_two_15 rfl ?_
    refine lv_goto (tgt := 20) hx hb dX8_two_16 (by decide) ?_
    exact w_X8_two_20 X x1 x2 x3 σ (f_X8_potThere σ x1) (f_X8_potThere σ x2) (-1 : Int32) _ _ _ h hW (lv_sub hl [0, 1, 2, 3] rfl)
abbrev rmX8_refuseFarthest : Room := { frames := 1, cells := 0, slots := 0, locals := 21 }
def f_X8_refuseFarthest (x1 : Int32) (σ : lb_Mem) : Option (Int64 × lb_Mem) := (f_X8_refuse x1 σ).bind (fun q5 => some (((4000000000000000000 : Int64) - (q5.1.toInt64)), q5.2))
set_option maxRecDepth 20000 in
set_option maxHeartbeats 4000000 in
theorem m_X8_refuseFarthest (l : Launch) (G : lb_G) (σ : lb_Mem) (x1 : Int32) (qr : (Int64 × lb_Mem)) (h : f_X8_refuseFarthest x1 σ = some qr) : lb_M l yX8_refuseFarthest cX8_refuseFarthest 2 (some .long) rmX8_refuseFarthest [.ref (lb_ad G 0), .int x1] G σ (lb_QL G qr.1 qr.2) := by
  refine lb_start RX8 (by decide +kernel) rfl (Nat.le_of_ble_eq_true rfl) (fun p e s m below meth c X hW ls hl => ?_)
  have hx := X.1
  have hb := X.2.1
  have hl : lv_has ls 2 [(0, .ref (lb_ad G 0)), (1, .int x1)] := hl
  have h : ((f_X8_refuse x1 σ).bind (fun q5 => some (((4000000000000000000 : Int64) - (q5.1.toInt64)), q5.2))) = some qr := h
  skip
  refine lv_ldc2 (v := 4000000000000000000) hx hb X.2.2.2.1 (X.2.2.2.2.1 _ qw_682) dX8_refuseFarthest_0 ?_
  refine lv_aload_n hx hb dX8_refuseFarthest_3 rfl (lv_at hl 0 rfl) ?_
  refine lv_iload_n hx hb dX8_refuseFarthest_4 rfl (lv_at hl 1 rfl) ?_
  obtain ⟨q5, e5, h⟩ := lb_bind h
  refine rc_X8_55 X hW e5 ⟨⟨rfl, rfl⟩, Nat.le_of_ble_eq_true rfl, Nat.le_of_ble_eq_true rfl⟩ hl.1 (Nat.le_of_ble_eq_true rfl) dX8_refuseFarthest_5 ⟨Nat.zero_le _, Nat.zero_le _⟩ (fun H locs hW => ?_)
  refine lv_i2l (v := q5.1.toInt64) hx hb dX8_refuseFarthest_8 rfl ?_
  refine lv_lsub hx hb dX8_refuseFarthest_9 ?_
  obtain rfl := Option.some.inj h
  exact lb_lret X hW dX8_refuseFarthest_10
theorem rc_X8_226 {p : Program} {l : Launch} {e : Env} {R : Room} {s : State} {m : MethodId} {args : Array Value} {below : List Frame} {meth : Method} {c : Code} {H : Heap} {locs : List Loc} {cells slots : Nat} {Q : State → Prop} {cc : ByteArray} {pc nL : Nat} {ls : Array Slot} {rest : List Value} {G : lb_G} {σ : lb_Mem} {ret : Option FieldType} (X : lb_C G p s m args meth c cc nL RX8 ret) (hW : lb_W G s σ H locs) {b0 : Nat} (hb0 : lb_V b0) {qr : lb_Mem} (h : f_X7_labelsOneOn b0 σ = some qr) (hR : lb_room rmX7_labelsOneOn R 2) (hls : ls.size = nL) (hrest : (rest.map fun v => v.category).sum ≤ 8) (d : decode cc pc = .ok (.invokevirtual 226, 3)) (hcap : cells ≤ R.cells ∧ slots ≤ R.slots) (kk : ∀ (H1 : Heap) (locs1 : List Loc), lb_W G s qr H1 locs1 → W p l e R s m args below meth c H1 locs1 cells slots Q (F0 m (pc + 3) ls rest)) : W p l e R s m args below meth c H locs cells slots Q (F0 m pc ls (.ref (lb_ad G b0) :: rest)) :=
  lb_goV hW (lb_runV (As := []) X hW (m_X7_labelsOneOn l G σ hb0 qr h) (n := 0) ⟨qw_687, qw_44, qw_690, by decide +kernel⟩ hR qw_688 qw_689 (lb_isV hb0) rfl hls hrest d hcap) kk
abbrev rmX8_graceIfErring : Room := { frames := 5, cells := 0, slots := 0, locals := 119 }
def f_X8_graceIfErring_37 (kc14 : Int32 → Int32 → Int32 → Int32 → lb_Mem → Option (Int32 × lb_Mem)) (x1 : Int32) (x2 : Int32) (x3 : Int32) (x4 : Int32) (σ : lb_Mem) : Option (Int32 × lb_Mem) := (f_X7_passFor 17 x1 (1 : Int32) σ).bind (fun s43 => kc14 x1 x2 x3 (x4 + 1) s43)
set_option maxRecDepth 20000 in
set_option maxHeartbeats 4000000 in
theorem w_X8_graceIfErring_37 {p : Program} {l : Launch} {e : Env} {s : State} {m : MethodId} {args : Array Value} {below : List Frame} {meth : Method} {c : Code} {G : lb_G} {qr : (Int32 × lb_Mem)} (X : lb_C G p s m args meth c cX8_graceIfErring 5 RX8 (some .int)) {kc14 : Int32 → Int32 → Int32 → Int32 → lb_Mem → Option (Int32 × lb_Mem)} (hc14 : ∀ (x1 : Int32) (x2 : Int32) (x3 : Int32) (x4 : Int32) (σ : lb_Mem) (H : Heap) (locs : List Loc) (ls : Array Slot), kc14 x1 x2 x3 x4 σ = some qr → lb_W G s σ H locs → lv_has ls 5 [(0, .ref (lb_ad G 0)), (1, .int x1), (2, .int x2), (3, .int x3), (4, .int x4)] → W p l e rmX8_graceIfErring s m args below meth c H locs 0 0 (MQ below (lb_QI G qr.1 qr.2) args s 0 0 (lb_A G)) (F0 m 14 ls [])) : ∀ (x1 : Int32) (x2 : Int32) (x3 : Int32) (x4 : Int32) (σ : lb_Mem) (H : Heap) (locs : List Loc) (ls : Array Slot), f_X8_graceIfErring_37 kc14 x1 x2 x3 x4 σ = some qr → lb_W G s σ H locs → lv_has ls 5 [(0, .ref (lb_ad G 0)), (1, .int x1), (2, .int x2), (3, .int x3), (4, .int x4)] → W p l e rmX8_graceIfErring s m args below meth c H locs 0 0 (MQ below (lb_QI G qr.1 qr.2) args s 0 0 (lb_A G)) (F0 m 37 ls []) := by
  have hx := X.1
  have hb := X.2.1
  intro x1 x2 x3 x4 σ H locs ls h hW hl
  have h : ((f_X7_passFor 17 x1 (1 : Int32) σ).bind (fun s43 => kc14 x1 x2 x3 (x4 + 1) s43)) = some qr := h
  refine lv_aload_n hx hb dX8_graceIfErring_37 rfl (lv_at hl 0 rfl) ?_
  refine rg_X8_16 X hW dX8_graceIfErring_38 ?_
  refine lv_iload_n hx hb dX8_graceIfErring_41 rfl (lv_at hl 1 rfl) ?_
  refine lv_iconst (v := 1) hx hb dX8_graceIfErring_42 rfl ?_
  obtain ⟨s43, e43, h⟩ := lb_bind h
  refine rc_X8_146 X hW lb_V17 e43 ⟨⟨rfl, rfl⟩, Nat.le_of_ble_eq_true rfl, Nat.le_of_ble_eq_true rfl⟩ hl.1 (Nat.le_of_ble_eq_true rfl) dX8_graceIfErring_43 ⟨Nat.zero_le _, Nat.zero_le _⟩ (fun H locs hW => ?_)
  refine lv_iinc (v := (x4 + 1)) (lv' := [(4, .int (x4 + 1)), (0, .ref (lb_ad G 0)), (1, .int x1), (2, .int x2), (3, .int x3)]) hx hb dX8_graceIfErring_46 hl (k := 4) rfl rfl (by decide) rfl (fun ls hl => ?_)
  refine lv_goto (tgt := 14) hx hb dX8_graceIfErring_49 (by decide) ?_
  exact hc14 x1 x2 x3 (x4 + 1) s43 _ _ _ h hW (lv_sub hl [1, 2, 3, 4, 0] rfl)
def f_X8_graceIfErring_14 : Nat → Int32 → Int32 → Int32 → Int32 → lb_Mem → Option (Int32 × lb_Mem)
  | 0, _, _, _, _, _ => none
  | n + 1, x1, x2, x3, x4, σ => if x2 ≤ x4 then lb_chk (lb_ix x1 5) (some ((σ 32 x1.toNatClampNeg), σ)) else if ((x3 >>> (x4 &&& 31)) &&& (1 : Int32)) = (1 : Int32) then (f_X7_labelsOneOn 17 σ).bind (fun s34 => f_X8_graceIfErring_37 (fun (x1 : Int32) (x2 : Int32) (x3 : Int32) (x4 : Int32) (σ : lb_Mem) => f_X8_graceIfErring_14 n x1 x2 x3 x4 σ) x1 x2 x3 x4 s34) else f_X8_graceIfErring_37 (fun (x1 : Int32) (x2 : Int32) (x3 : Int32) (x4 : Int32) (σ : lb_Mem) => f_X8_graceIfErring_14 n x1 x2 x3 x4 σ) x1 x2 x3 x4 σ
set_option maxRecDepth 20000 in
set_option maxHeartbeats 4000000 in
theorem w_X8_graceIfErring_14 {p : Program} {l : Launch} {e : Env} {s : State} {m : MethodId} {args : Array Value} {below : List Frame} {meth : Method} {c : Code} {G : lb_G} {qr : (Int32 × lb_Mem)} (X : lb_C G p s m args meth c cX8_graceIfErring 5 RX8 (some .int)) : ∀ (n : Nat) (x1 : Int32) (x2 : Int32) (x3 : Int32) (x4 : Int32) (σ : lb_Mem) (H : Heap) (locs : List Loc) (ls : Array Slot), f_X8_graceIfErring_14 n x1 x2 x3 x4 σ = some qr → lb_W G s σ H locs → lv_has ls 5 [(0, .ref (lb_ad G 0)), (1, .int x1), (2, .int x2), (3, .int x3), (4, .int x4)] → W p l e rmX8_graceIfErring s m args below meth c H locs 0 0 (MQ below (lb_QI G qr.1 qr.2) args s 0 0 (lb_A G)) (F0 m 14 ls []) := by
  have hx := X.1
  have hb := X.2.1
  intro n
  induction n with
  | zero => intro x1 x2 x3 x4 σ H locs ls h hW hl; exact absurd h (fun z => by cases z)
  | succ n ih =>
    intro x1 x2 x3 x4 σ H locs ls h hW hl
    have h : (if x2 ≤ x4 then lb_chk (lb_ix x1 5) (some ((σ 32 x1.toNatClampNeg), σ)) else if ((x3 >>> (x4 &&& 31)) &&& (1 : Int32)) = (1 : Int32) then (f_X7_labelsOneOn 17 σ).bind (fun s34 => f_X8_graceIfErring_37 (fun (x1 : Int32) (x2 : Int32) (x3 : Int32) (x4 : Int32) (σ : lb_Mem) => f_X8_graceIfErring_14 n x1 x2 x3 x4 σ) x1 x2 x3 x4 s34) else f_X8_graceIfErring_37 (fun (x1 : Int32) (x2 : Int32) (x3 : Int32) (x4 : Int32) (σ : lb_Mem) => f_X8_graceIfErring_14 n x1 x2 x3 x4 σ) x1 x2 x3 x4 σ) = some qr := h
    refine lv_iload hx hb dX8_graceIfErring_14 (lv_at hl 4 rfl) ?_
    refine lv_iload_n hx hb dX8_graceIfErring_16 rfl (lv_at hl 2 rfl) ?_
    refine lv_icmp_ge (tgt := 52) hx hb dX8_graceIfErring_17 (by decide) (fun c17 => ?_) (fun c17 => ?_)
    · have h := (if_pos c17).symm.trans h
      refine lv_aload_n hx hb dX8_graceIfErring_52 rfl (lv_at hl 0 rfl) ?_
      refine rg_X8_16 X hW dX8_graceIfErring_53 ?_
      refine rg_X8_113 (k := 32) X hW lb_V17 rfl dX8_graceIfErring_56 ?_
      refine lv_iload_n hx hb dX8_graceIfErring_59 rfl (lv_at hl 1 rfl) ?_
      obtain ⟨i60, h⟩ := lb_chk_in h
      refine lb_ild X hW (show lb_ar 32 = 4 + 1 from rfl) i60 dX8_graceIfErring_60 ?_
      obtain rfl := Option.some.inj h
      exact lb_iret X hW dX8_graceIfErring_61
    · have h := (if_neg c17).symm.trans h
      refine lv_iload_n hx hb dX8_graceIfErring_20 rfl (lv_at hl 3 rfl) ?_
      refine lv_iload hx hb dX8_graceIfErring_21 (lv_at hl 4 rfl) ?_
      refine lv_ishr hx hb dX8_graceIfErring_23 ?_
      refine lv_iconst (v := 1) hx hb dX8_graceIfErring_24 rfl ?_
      refine lv_iand hx hb dX8_graceIfErring_25 ?_
      refine lv_iconst (v := 1) hx hb dX8_graceIfErring_26 rfl ?_
      refine lv_icmp_ne (tgt := 37) hx hb dX8_graceIfErring_27 (by decide) (fun c27 => ?_) (fun c27 => ?_)
      · have h := (if_neg c27).symm.trans h
        exact w_X8_graceIfErring_37 X ih x1 x2 x3 x4 σ _ _ _ h hW (lv_sub hl [0, 1, 2, 3, 4] rfl)
      · have h := (if_pos c27).symm.trans h
        refine lv_aload_n hx hb dX8_graceIfErring_30 rfl (lv_at hl 0 rfl) ?_
        refine rg_X8_16 X hW dX8_graceIfErring_31 ?_
        obtain ⟨s34, e34, h⟩ := lb_bind h
        refine rc_X8_226 X hW lb_V17 e34 ⟨⟨rfl, rfl⟩, Nat.le_of_ble_eq_true rfl, Nat.le_of_ble_eq_true rfl⟩ hl.1 (Nat.le_of_ble_eq_true rfl) dX8_graceIfErring_34 ⟨Nat.zero_le _, Nat.zero_le _⟩ (fun H locs hW => ?_)
        exact w_X8_graceIfErring_37 X ih x1 x2 x3 x4 s34 _ _ _ h hW (lv_sub hl [0, 1, 2, 3, 4] rfl)
def f_X8_graceIfErring (x1 : Int32) (x2 : Int32) (x3 : Int32) (σ : lb_Mem) : Option (Int32 × lb_Mem) := (f_X7_become 17 1 σ).bind (fun s8 => f_X8_graceIfErring_14 lb_N x1 x2 x3 (0 : Int32) s8)
set_option maxRecDepth 20000 in
set_option maxHeartbeats 4000000 in
theorem m_X8_graceIfErring (l : Launch) (G : lb_G) (σ : lb_Mem) (x1 : Int32) (x2 : Int32) (x3 : Int32) (qr : (Int32 × lb_Mem)) (h : f_X8_graceIfErring x1 x2 x3 σ = some qr) : lb_M l yX8_graceIfErring cX8_graceIfErring 5 (some .int) rmX8_graceIfErring [.ref (lb_ad G 0), .int x1, .int x2, .int x3] G σ (lb_QI G qr.1 qr.2) := by
  refine lb_start RX8 (by decide +kernel) rfl (Nat.le_of_ble_eq_true rfl) (fun p e s m below meth c X hW ls hl => ?_)
  have hx := X.1
  have hb := X.2.1
  have hl : lv_has ls 5 [(0, .ref (lb_ad G 0)), (1, .int x1), (2, .int x2), (3, .int x3)] := hl
  have h : ((f_X7_become 17 1 σ).bind (fun s8 => f_X8_graceIfErring_14 lb_N x1 x2 x3 (0 : Int32) s8)) = some qr := h
  skip
  refine lv_aload_n hx hb dX8_graceIfErring_0 rfl (lv_at hl 0 rfl) ?_
  refine rg_X8_16 X hW dX8_graceIfErring_1 ?_
  refine lv_aload_n hx hb dX8_graceIfErring_4 rfl (lv_at hl 0 rfl) ?_
  refine rg_X8_10 X hW dX8_graceIfErring_5 ?_
  obtain ⟨s8, e8, h⟩ := lb_bind h
  refine rc_X8_67 X hW lb_V17 lb_V1 e8 ⟨⟨rfl, rfl⟩, Nat.le_of_ble_eq_true rfl, Nat.le_of_ble_eq_true rfl⟩ hl.1 (Nat.le_of_ble_eq_true rfl) dX8_graceIfErring_8 ⟨Nat.zero_le _, Nat.zero_le _⟩ (fun H locs hW => ?_)
  refine lv_iconst (v := 0) hx hb dX8_graceIfErring_11 rfl ?_
  refine lv_istore (lv' := [(4, .int (0 : Int32)), (0, .ref (lb_ad G 0)), (1, .int x1), (2, .int x2), (3, .int x3)]) hx hb dX8_graceIfErring_12 hl (by decide) rfl (fun ls hl => ?_)
  exact w_X8_graceIfErring_14 X lb_N x1 x2 x3 (0 : Int32) s8 _ _ _ h hW (lv_sub hl [1, 2, 3, 4, 0] rfl)
abbrev rmX8_power : Room := { frames := 0, cells := 0, slots := 0, locals := 0 }
def f_X8_power_5 : Nat → Int32 → Int32 → Int64 → Int32 → Option Int64
  | 0, _, _, _, _ => none
  | n + 1, x0, x1, x2, x4 => if x1 ≤ x4 then some x2 else lb_let ((x2 * (x0.toInt64))) (fun v15 : Int64 => f_X8_power_5 n x0 x1 v15 (x4 + 1))
set_option maxRecDepth 20000 in
set_option maxHeartbeats 4000000 in
theorem w_X8_power_5 {p : Program} {l : Launch} {e : Env} {s : State} {m : MethodId} {args : Array Value} {below : List Frame} {meth : Method} {c : Code} {G : lb_G} {σ : lb_Mem} {qr : Int64} (X : lb_C G p s m args meth c cX8_power 5 RX8 (some .long)) : ∀ (n : Nat) (x0 : Int32) (x1 : Int32) (x2 : Int64) (x4 : Int32) (H : Heap) (locs : List Loc) (ls : Array Slot), f_X8_power_5 n x0 x1 x2 x4 = some qr → lb_W G s σ H locs → lv_has ls 5 [(0, .int x0), (1, .int x1), (2, .long x2), (4, .int x4)] → W p l e rmX8_power s m args below meth c H locs 0 0 (MQ below (lb_QL G qr σ) args s 0 0 (lb_A G)) (F0 m 5 ls []) := by
  have hx := X.1
  have hb := X.2.1
  intro n
  induction n with
  | zero => intro x0 x1 x2 x4 H locs ls h hW hl; exact absurd h (fun z => by cases z)
  | succ n ih =>
    intro x0 x1 x2 x4 H locs ls h hW hl
    have h : (if x1 ≤ x4 then some x2 else lb_let ((x2 * (x0.toInt64))) (fun v15 : Int64 => f_X8_power_5 n x0 x1 v15 (x4 + 1))) = some qr := h
    refine lv_iload hx hb dX8_power_5 (lv_at hl 3 rfl) ?_
    refine lv_iload_n hx hb dX8_power_7 rfl (lv_at hl 1 rfl) ?_
    refine lv_icmp_ge (tgt := 22) hx hb dX8_power_8 (by decide) (fun c8 => ?_) (fun c8 => ?_)
    · have h := (if_pos c8).symm.trans h
      refine lv_lload_n hx hb dX8_power_22 rfl (lv_at hl 2 rfl) ?_
      obtain rfl := Option.some.inj h
      exact lb_lret X hW dX8_power_23
    · have h := (if_neg c8).symm.trans h
      refine lv_lload_n hx hb dX8_power_11 rfl (lv_at hl 2 rfl) ?_
      refine lv_iload_n hx hb dX8_power_12 rfl (lv_at hl 0 rfl) ?_
      refine lv_i2l (v := x0.toInt64) hx hb dX8_power_13 rfl ?_
      refine lv_lmul hx hb dX8_power_14 ?_
      refine lv_topl (fun v15 e15 => ?_)
      have h := lb_letI e15 h
      refine lv_lstore_n (lv' := [(2, .long v15), (0, .int x0), (1, .int x1), (4, .int x4)]) hx hb dX8_power_15 rfl hl (by decide) rfl (fun ls hl => ?_)
      refine lv_iinc (v := (x4 + 1)) (lv' := [(4, .int (x4 + 1)), (2, .long v15), (0, .int x0), (1, .int x1)]) hx hb dX8_power_16 hl (k := 3) rfl rfl (by decide) rfl (fun ls hl => ?_)
      refine lv_goto (tgt := 5) hx hb dX8_power_19 (by decide) ?_
      exact ih x0 x1 v15 (x4 + 1) _ _ _ h hW (lv_sub hl [2, 3, 1, 0] rfl)
def f_X8_power (x0 : Int32) (x1 : Int32) : Option Int64 := f_X8_power_5 lb_N x0 x1 (1 : Int64) (0 : Int32)
set_option maxRecDepth 20000 in
set_option maxHeartbeats 4000000 in
theorem m_X8_power (l : Launch) (G : lb_G) (σ : lb_Mem) (x0 : Int32) (x1 : Int32) (qr : Int64) (h : f_X8_power x0 x1 = some qr) : lb_M l yX8_power cX8_power 5 (some .long) rmX8_power [.int x0, .int x1] G σ (lb_QL G qr σ) := by
  refine lb_start RX8 (by decide +kernel) rfl (Nat.le_of_ble_eq_true rfl) (fun p e s m below meth c X hW ls hl => ?_)
  have hx := X.1
  have hb := X.2.1
  have hl : lv_has ls 5 [(0, .int x0), (1, .int x1)] := hl
  have h : (f_X8_power_5 lb_N x0 x1 (1 : Int64) (0 : Int32)) = some qr := h
  skip
  refine lv_lconst (v := 1) hx hb dX8_power_0 rfl ?_
  refine lv_lstore_n (lv' := [(2, .long (1 : Int64)), (0, .int x0), (1, .int x1)]) hx hb dX8_power_1 rfl hl (by decide) rfl (fun ls hl => ?_)
  refine lv_iconst (v := 0) hx hb dX8_power_2 rfl ?_
  refine lv_istore (lv' := [(4, .int (0 : Int32)), (2, .long (1 : Int64)), (0, .int x0), (1, .int x1)]) hx hb dX8_power_3 hl (by decide) rfl (fun ls hl => ?_)
  exact w_X8_power_5 X lb_N x0 x1 (1 : Int64) (0 : Int32) _ _ _ h hW (lv_sub hl [2, 3, 1, 0] rfl)
abbrev rmX8_commonDivisor : Room := { frames := 0, cells := 0, slots := 0, locals := 0 }
def f_X8_commonDivisor_9 : Nat → Int64 → Int64 → Int32 → Option Int64
  | 0, _, _, _ => none
  | n + 1, x4, x6, x8 => if (100 : Int32) ≤ x8 then some x4 else if (lg_cmp x6 (0 : Int64)) = 0 then some x4 else lb_chk (x6 != 0) (lb_let ((x4 - x4 / x6 * x6)) (fun v28 : Int64 => f_X8_commonDivisor_9 n x6 v28 (x8 + 1)))
set_option maxRecDepth 20000 in
set_option maxHeartbeats 4000000 in
theorem w_X8_commonDivisor_9 {p : Program} {l : Launch} {e : Env} {s : State} {m : MethodId} {args : Array Value} {below : List Frame} {meth : Method} {c : Code} {G : lb_G} {σ : lb_Mem} {qr : Int64} (X : lb_C G p s m args meth c cX8_commonDivisor 11 RX8 (some .long)) : ∀ (n : Nat) (x4 : Int64) (x6 : Int64) (x8 : Int32) (H : Heap) (locs : List Loc) (ls : Array Slot), f_X8_commonDivisor_9 n x4 x6 x8 = some qr → lb_W G s σ H locs → lv_has ls 11 [(4, .long x4), (6, .long x6), (8, .int x8)] → W p l e rmX8_commonDivisor s m args below meth c H locs 0 0 (MQ below (lb_QL G qr σ) args s 0 0 (lb_A G)) (F0 m 9 ls []) := by
  have hx := X.1
  have hb := X.2.1
  intro n
  induction n with
  | zero => intro x4 x6 x8 H locs ls h hW hl; exact absurd h (fun z => by cases z)
  | succ n ih =>
    intro x4 x6 x8 H locs ls h hW hl
    have h : (if (100 : Int32) ≤ x8 then some x4 else if (lg_cmp x6 (0 : Int64)) = 0 then some x4 else lb_chk (x6 != 0) (lb_let ((x4 - x4 / x6 * x6)) (fun v28 : Int64 => f_X8_commonDivisor_9 n x6 v28 (x8 + 1)))) = some qr := h
    refine lv_iload hx hb dX8_commonDivisor_9 (lv_at hl 2 rfl) ?_
    refine lv_bipush (v := 100) hx hb dX8_commonDivisor_11 rfl ?_
    refine lv_icmp_ge (tgt := 44) hx hb dX8_commonDivisor_13 (by decide) (fun c13 => ?_) (fun c13 => ?_)
    · have h := (if_pos c13).symm.trans h
      refine lv_lload hx hb dX8_commonDivisor_44 (lv_at hl 0 rfl) ?_
      obtain rfl := Option.some.inj h
      exact lb_lret X hW dX8_commonDivisor_46
    · have h := (if_neg c13).symm.trans h
      refine lv_lload hx hb dX8_commonDivisor_16 (lv_at hl 1 rfl) ?_
      refine lv_lconst (v := 0) hx hb dX8_commonDivisor_18 rfl ?_
      refine W.lcmp hx hb dX8_commonDivisor_19 ?_
      refine lv_if_eq (tgt := 44) hx hb dX8_commonDivisor_20 (by decide) (fun c20 => ?_) (fun c20 => ?_)
      · have h := (if_pos c20).symm.trans h
        refine lv_lload hx hb dX8_commonDivisor_44 (lv_at hl 0 rfl) ?_
        obtain rfl := Option.some.inj h
        exact lb_lret X hW dX8_commonDivisor_46
      · have h := (if_neg c20).symm.trans h
        refine lv_lload hx hb dX8_commonDivisor_23 (lv_at hl 0 rfl) ?_
        refine lv_lload hx hb dX8_commonDivisor_25 (lv_at hl 1 rfl) ?_
        obtain ⟨z27, h⟩ := lb_chk_nzl h
        refine lv_lrem hx hb dX8_commonDivisor_27 z27 ?_
        refine lv_topl (fun v28 e28 => ?_)
        have h := lb_letI e28 h
        refine lv_lstore (lv' := [(9, .long v28), (4, .long x4), (6, .long x6), (8, .int x8)]) hx hb dX8_commonDivisor_28 hl (by decide) rfl (fun ls hl => ?_)
        refine lv_lload hx hb dX8_commonDivisor_30 (lv_at hl 2 rfl) ?_
        refine lv_lstore (lv' := [(4, .long x6), (9, .long v28), (6, .long x6), (8, .int x8)]) hx hb dX8_commonDivisor_32 hl (by decide) rfl (fun ls hl => ?_)
        refine lv_lload hx hb dX8_commonDivisor_34 (lv_at hl 1 rfl) ?_
        refine lv_lstore (lv' := [(6, .long v28), (4, .long x6), (9, .long v28), (8, .int x8)]) hx hb dX8_commonDivisor_36 hl (by decide) rfl (fun ls hl => ?_)
        refine lv_iinc (v := (x8 + 1)) (lv' := [(8, .int (x8 + 1)), (6, .long v28), (4, .long x6), (9, .long v28)]) hx hb dX8_commonDivisor_38 hl (k := 3) rfl rfl (by decide) rfl (fun ls hl => ?_)
        refine lv_goto (tgt := 9) hx hb dX8_commonDivisor_41 (by decide) ?_
        exact ih x6 v28 (x8 + 1) _ _ _ h hW (lv_sub hl [2, 1, 0] rfl)
def f_X8_commonDivisor (x0 : Int64) (x2 : Int64) : Option Int64 := f_X8_commonDivisor_9 lb_N x0 x2 (0 : Int32)
set_option maxRecDepth 20000 in
set_option maxHeartbeats 4000000 in
theorem m_X8_commonDivisor (l : Launch) (G : lb_G) (σ : lb_Mem) (x0 : Int64) (x2 : Int64) (qr : Int64) (h : f_X8_commonDivisor x0 x2 = some qr) : lb_M l yX8_commonDivisor cX8_commonDivisor 11 (some .long) rmX8_commonDivisor [.long x0, .long x2] G σ (lb_QL G qr σ) := by
  refine lb_start RX8 (by decide +kernel) rfl (Nat.le_of_ble_eq_true rfl) (fun p e s m below meth c X hW ls hl => ?_)
  have hx := X.1
  have hb := X.2.1
  have hl : lv_has ls 11 [(0, .long x0), (2, .long x2)] := hl
  have h : (f_X8_commonDivisor_9 lb_N x0 x2 (0 : Int32)) = some qr := h
  skip
  refine lv_lload_n hx hb dX8_commonDivisor_0 rfl (lv_at hl 0 rfl) ?_
  refine lv_lstore (lv' := [(4, .long x0), (0, .long x0), (2, .long x2)]) hx hb dX8_commonDivisor_1 hl (by decide) rfl (fun ls hl => ?_)
  refine lv_lload_n hx hb dX8_commonDivisor_3 rfl (lv_at hl 2 rfl) ?_
  refine lv_lstore (lv' := [(6, .long x2), (4, .long x0), (0, .long x0), (2, .long x2)]) hx hb dX8_commonDivisor_4 hl (by decide) rfl (fun ls hl => ?_)
  refine lv_iconst (v := 0) hx hb dX8_commonDivisor_6 rfl ?_
  refine lv_istore (lv' := [(8, .int (0 : Int32)), (6, .long x2), (4, .long x0), (0, .long x0), (2, .long x2)]) hx hb dX8_commonDivisor_7 hl (by decide) rfl (fun ls hl => ?_)
  exact w_X8_commonDivisor_9 X lb_N x0 x2 (0 : Int32) _ _ _ h hW (lv_sub hl [2, 1, 0] rfl)
theorem rc_X8_256 {p : Program} {l : Launch} {e : Env} {R : Room} {s : State} {m : MethodId} {args : Array Value} {below : List Frame} {meth : Method} {c : Code} {H : Heap} {locs : List Loc} {cells slots : Nat} {Q : State → Prop} {cc : ByteArray} {pc nL : Nat} {ls : Array Slot} {rest : List Value} {G : lb_G} {σ : lb_Mem} {ret : Option FieldType} (X : lb_C G p s m args meth c cc nL RX8 ret) (hW : lb_W G s σ H locs) {x0 : Int64} {x2 : Int64} {qr : Int64} (h : f_X8_commonDivisor x0 x2 = some qr) (hR : lb_room rmX8_commonDivisor R 11) (hls : ls.size = nL) (hrest : (rest.map fun v => v.category).sum ≤ 8) (d : decode cc pc = .ok (.invokestatic 256, 3)) (hcap : cells ≤ R.cells ∧ slots ≤ R.slots) (kk : ∀ (H1 : Heap) (locs1 : List Loc), lb_W G s σ H1 locs1 → W p l e R s m args below meth c H1 locs1 cells slots Q (F0 m (pc + 3) ls (.long qr :: rest))) : W p l e R s m args below meth c H locs cells slots Q (F0 m pc ls (.long x2 :: .long x0 :: rest)) :=
  lb_goL hW (lb_runS (As := [.long x0, .long x2]) X hW (m_X8_commonDivisor l G σ x0 x2 qr h) (n := 2) ⟨qw_697, qw_43, qw_699, by decide +kernel⟩ hR qw_698 rfl hls hrest d hcap) kk
abbrev rmX8_ofFraction : Room := { frames := 1, cells := 0, slots := 0, locals := 30 }
def f_X8_ofFraction_21 (x5 : Int64) (y0 : Int64) : Option Int64 := lb_chk (x5 != 0) (some (y0 / x5))
set_option maxRecDepth 20000 in
set_option maxHeartbeats 4000000 in
theorem w_X8_ofFraction_21 {p : Program} {l : Launch} {e : Env} {s : State} {m : MethodId} {args : Array Value} {below : List Frame} {meth : Method} {c : Code} {G : lb_G} {σ : lb_Mem} {qr : Int64} (X : lb_C G p s m args meth c cX8_ofFraction 7 RX8 (some .long)) : ∀ (x5 : Int64) (y0 : Int64) (H : Heap) (locs : List Loc) (ls : Array Slot), f_X8_ofFraction_21 x5 y0 = some qr → lb_W G s σ H locs → lv_has ls 7 [(5, .long x5)] → W p l e rmX8_ofFraction s m args below meth c H locs 0 0 (MQ below (lb_QL G qr σ) args s 0 0 (lb_A G)) (F0 m 21 ls [.long y0]) := by
  have hx := X.1
  have hb := X.2.1
  intro x5 y0 H locs ls h hW hl
  have h : (lb_chk (x5 != 0) (some (y0 / x5))) = some qr := h
  refine lv_lload hx hb dX8_ofFraction_21 (lv_at hl 0 rfl) ?_
  obtain ⟨z23, h⟩ := lb_chk_nzl h
  refine lv_ldiv hx hb dX8_ofFraction_23 z23 ?_
  obtain rfl := Option.some.inj h
  exact lb_lret X hW dX8_ofFraction_24
def f_X8_ofFraction (x0 : Int64) (x2 : Int64) (x4 : Int32) : Option Int64 := (f_X8_commonDivisor x0 x2).bind (fun q3 => lb_let ((if q3 < (1 : Int64) then (1 : Int64) else q3)) (fun v9 : Int64 => if x4 = 0 then f_X8_ofFraction_21 v9 x0 else f_X8_ofFraction_21 v9 x2))
set_option maxRecDepth 20000 in
set_option maxHeartbeats 4000000 in
theorem m_X8_ofFraction (l : Launch) (G : lb_G) (σ : lb_Mem) (x0 : Int64) (x2 : Int64) (x4 : Int32) (qr : Int64) (h : f_X8_ofFraction x0 x2 x4 = some qr) : lb_M l yX8_ofFraction cX8_ofFraction 7 (some .long) rmX8_ofFraction [.long x0, .long x2, .int x4] G σ (lb_QL G qr σ) := by
  refine lb_start RX8 (by decide +kernel) rfl (Nat.le_of_ble_eq_true rfl) (fun p e s m below meth c X hW ls hl => ?_)
  have hx := X.1
  have hb := X.2.1
  have hl : lv_has ls 7 [(0, .long x0), (2, .long x2), (4, .int x4)] := hl
  have h : ((f_X8_commonDivisor x0 x2).bind (fun q3 => lb_let ((if q3 < (1 : Int64) then (1 : Int64) else q3)) (fun v9 : Int64 => if x4 = 0 then f_X8_ofFraction_21 v9 x0 else f_X8_ofFraction_21 v9 x2))) = some qr := h
  skip
  refine lv_lconst (v := 1) hx hb dX8_ofFraction_0 rfl ?_
  refine lv_lload_n hx hb dX8_ofFraction_1 rfl (lv_at hl 0 rfl) ?_
  refine lv_lload_n hx hb dX8_ofFraction_2 rfl (lv_at hl 1 rfl) ?_
  obtain ⟨q3, e3, h⟩ := lb_bind h
  refine rc_X8_256 X hW e3 ⟨⟨rfl, rfl⟩, Nat.le_of_ble_eq_true rfl, Nat.le_of_ble_eq_true rfl⟩ hl.1 (Nat.le_of_ble_eq_true rfl) dX8_ofFraction_3 ⟨Nat.zero_le _, Nat.zero_le _⟩ (fun H locs hW => ?_)
  refine va_mmax_long hx hb (by rw [X.2.2.1]; exact hl.1.symm) X.2.2.2.1 (X.2.2.2.2.1 _ qw_700) (X.2.2.2.2.1 _ qw_701) (X.2.2.2.2.1 _ qw_55) (X.2.2.2.2.1 _ qw_702) (Nat.le_of_ble_eq_true rfl) (Nat.le_of_ble_eq_true rfl) (Nat.zero_le _) (Nat.zero_le _) dX8_ofFraction_6 ?_
  refine lv_topl (fun v9 e9 => ?_)
  have h := lb_letI e9 h
  refine lv_lstore (lv' := [(5, .long v9), (0, .long x0), (2, .long x2), (4, .int x4)]) hx hb dX8_ofFraction_9 hl (by decide) rfl (fun ls hl => ?_)
  refine lv_iload hx hb dX8_ofFraction_11 (lv_at hl 3 rfl) ?_
  refine lv_if_ne (tgt := 20) hx hb dX8_ofFraction_13 (by decide) (fun c13 => ?_) (fun c13 => ?_)
  · have h := (if_neg c13).symm.trans h
    refine lv_lload_n hx hb dX8_ofFraction_20 rfl (lv_at hl 2 rfl) ?_
    exact w_X8_ofFraction_21 X v9 x2 _ _ _ h hW (lv_sub hl [0] rfl)
  · have h := (if_pos c13).symm.trans h
    refine lv_lload_n hx hb dX8_ofFraction_16 rfl (lv_at hl 1 rfl) ?_
    refine lv_goto (tgt := 21) hx hb dX8_ofFraction_17 (by decide) ?_
    exact w_X8_ofFraction_21 X v9 x0 _ _ _ h hW (lv_sub hl [0] rfl)
theorem rc_X8_211 {p : Program} {l : Launch} {e : Env} {R : Room} {s : State} {m : MethodId} {args : Array Value} {below : List Frame} {meth : Method} {c : Code} {H : Heap} {locs : List Loc} {cells slots : Nat} {Q : State → Prop} {cc : ByteArray} {pc nL : Nat} {ls : Array Slot} {rest : List Value} {G : lb_G} {σ : lb_Mem} {ret : Option FieldType} (X : lb_C G p s m args meth c cc nL RX8 ret) (hW : lb_W G s σ H locs) {x1 : Int32} {qr : (Int64 × lb_Mem)} (h : f_X8_refuseFarthest x1 σ = some qr) (hR : lb_room rmX8_refuseFarthest R 2) (hls : ls.size = nL) (hrest : (rest.map fun v => v.category).sum ≤ 8) (d : decode cc pc = .ok (.invokevirtual 211, 3)) (hcap : cells ≤ R.cells ∧ slots ≤ R.slots) (kk : ∀ (H1 : Heap) (locs1 : List Loc), lb_W G s qr.2 H1 locs1 → W p l e R s m args below meth c H1 locs1 cells slots Q (F0 m (pc + 3) ls (.long qr.1 :: rest))) : W p l e R s m args below meth c H locs cells slots Q (F0 m pc ls (.int x1 :: .ref (lb_ad G 0) :: rest)) :=
  lb_goL hW (lb_runV (As := [.int x1]) X hW (m_X8_refuseFarthest l G σ x1 qr h) (n := 1) ⟨qw_678, qw_43, qw_681, by decide +kernel⟩ hR qw_680 qw_14 lb_is0 rfl hls hrest d hcap) kk
theorem rc_X8_215 {p : Program} {l : Launch} {e : Env} {R : Room} {s : State} {m : MethodId} {args : Array Value} {below : List Frame} {meth : Method} {c : Code} {H : Heap} {locs : List Loc} {cells slots : Nat} {Q : State → Prop} {cc : ByteArray} {pc nL : Nat} {ls : Array Slot} {rest : List Value} {G : lb_G} {σ : lb_Mem} {ret : Option FieldType} (X : lb_C G p s m args meth c cc nL RX8 ret) (hW : lb_W G s σ H locs) {x1 : Int32} {x2 : Int32} {x3 : Int32} {qr : (Int32 × lb_Mem)} (h : f_X8_graceIfErring x1 x2 x3 σ = some qr) (hR : lb_room rmX8_graceIfErring R 5) (hls : ls.size = nL) (hrest : (rest.map fun v => v.category).sum ≤ 8) (d : decode cc pc = .ok (.invokevirtual 215, 3)) (hcap : cells ≤ R.cells ∧ slots ≤ R.slots) (kk : ∀ (H1 : Heap) (locs1 : List Loc), lb_W G s qr.2 H1 locs1 → W p l e R s m args below meth c H1 locs1 cells slots Q (F0 m (pc + 3) ls (.int qr.1 :: rest))) : W p l e R s m args below meth c H locs cells slots Q (F0 m pc ls (.int x3 :: .int x2 :: .int x1 :: .ref (lb_ad G 0) :: rest)) :=
  lb_goI hW (lb_runV (As := [.int x1, .int x2, .int x3]) X hW (m_X8_graceIfErring l G σ x1 x2 x3 qr h) (n := 3) ⟨qw_683, qw_43, qw_686, by decide +kernel⟩ hR qw_685 qw_15 lb_is0 rfl hls hrest d hcap) kk
theorem rc_X8_218 {p : Program} {l : Launch} {e : Env} {R : Room} {s : State} {m : MethodId} {args : Array Value} {below : List Frame} {meth : Method} {c : Code} {H : Heap} {locs : List Loc} {cells slots : Nat} {Q : State → Prop} {cc : ByteArray} {pc nL : Nat} {ls : Array Slot} {rest : List Value} {G : lb_G} {σ : lb_Mem} {ret : Option FieldType} (X : lb_C G p s m args meth c cc nL RX8 ret) (hW : lb_W G s σ H locs) {x0 : Int32} {x1 : Int32} {qr : Int64} (h : f_X8_power x0 x1 = some qr) (hR : lb_room rmX8_power R 5) (hls : ls.size = nL) (hrest : (rest.map fun v => v.category).sum ≤ 8) (d : decode cc pc = .ok (.invokestatic 218, 3)) (hcap : cells ≤ R.cells ∧ slots ≤ R.slots) (kk : ∀ (H1 : Heap) (locs1 : List Loc), lb_W G s σ H1 locs1 → W p l e R s m args below meth c H1 locs1 cells slots Q (F0 m (pc + 3) ls (.long qr :: rest))) : W p l e R s m args below meth c H locs cells slots Q (F0 m pc ls (.int x1 :: .int x0 :: rest)) :=
  lb_goL hW (lb_runS (As := [.int x0, .int x1]) X hW (m_X8_power l G σ x0 x1 qr h) (n := 2) ⟨qw_691, qw_43, qw_693, by decide +kernel⟩ hR qw_692 rfl hls hrest d hcap) kk
theorem rc_X8_222 {p : Program} {l : Launch} {e : Env} {R : Room} {s : State} {m : MethodId} {args : Array Value} {below : List Frame} {meth : Method} {c : Code} {H : Heap} {locs : List Loc} {cells slots : Nat} {Q : State → Prop} {cc : ByteArray} {pc nL : Nat} {ls : Array Slot} {rest : List Value} {G : lb_G} {σ : lb_Mem} {ret : Option FieldType} (X : lb_C G p s m args meth c cc nL RX8 ret) (hW : lb_W G s σ H locs) {x0 : Int64} {x2 : Int64} {x4 : Int32} {qr : Int64} (h : f_X8_ofFraction x0 x2 x4 = some qr) (hR : lb_room rmX8_ofFraction R 7) (hls : ls.size = nL) (hrest : (rest.map fun v => v.category).sum ≤ 8) (d : decode cc pc = .ok (.invokestatic 222, 3)) (hcap : cells ≤ R.cells ∧ slots ≤ R.slots) (kk : ∀ (H1 : Heap) (locs1 : List Loc), lb_W G s σ H1 locs1 → W p l e R s m args below meth c H1 locs1 cells slots Q (F0 m (pc + 3) ls (.long qr :: rest))) : W p l e R s m args below meth c H locs cells slots Q (F0 m pc ls (.int x4 :: .long x2 :: .long x0 :: rest)) :=
  lb_goL hW (lb_runS (As := [.long x0, .long x2, .int x4]) X hW (m_X8_ofFraction l G σ x0 x2 x4 qr h) (n := 3) ⟨qw_694, qw_43, qw_696, by decide +kernel⟩ hR qw_695 rfl hls hrest d hcap) kk
abbrev rmX8_errs : Room := { frames := 6, cells := 0, slots := 0, locals := 143 }
def f_X8_errs_82 : Nat → Int32 → Int32 → Int32 → Int32 → Int32 → Int64 → Int32 → lb_Mem → Option (Int64 × lb_Mem)
  | 0, _, _, _, _, _, _, _, _ => none
  | n + 1, x1, x2, x3, x4, x5, x7, x9, σ => if ((1 : Int32) <<< (x2 &&& 31)) ≤ x9 then (f_X8_power x3 x2).bind (fun q131 => (f_X8_ofFraction x7 q131 x5).bind (fun q136 => some (q136, σ))) else (f_X8_graceIfErring x1 x2 x9 σ).bind (fun q95 => if q95.1 < x4 then f_X8_errs_82 n x1 x2 x3 x4 x5 x7 (x9 + 1) q95.2 else (f_X8_power (x3 - (1 : Int32)) (x2 - (f_J6_bitCount_0f7a4 x9))).bind (fun q115 => lb_let ((x7 + q115)) (fun v119 : Int64 => f_X8_errs_82 n x1 x2 x3 x4 x5 v119 (x9 + 1) q95.2)))
set_option maxRecDepth 20000 in
set_option maxHeartbeats 4000000 in
theorem w_X8_errs_82 {p : Program} {l : Launch} {e : Env} {s : State} {m : MethodId} {args : Array Value} {below : List Frame} {meth : Method} {c : Code} {G : lb_G} {qr : (Int64 × lb_Mem)} (X : lb_C G p s m args meth c cX8_errs 10 RX8 (some .long)) : ∀ (n : Nat) (x1 : Int32) (x2 : Int32) (x3 : Int32) (x4 : Int32) (x5 : Int32) (x7 : Int64) (x9 : Int32) (σ : lb_Mem) (H : Heap) (locs : List Loc) (ls : Array Slot), f_X8_errs_82 n x1 x2 x3 x4 x5 x7 x9 σ = some qr → lb_W G s σ H locs → lv_has ls 10 [(0, .ref (lb_ad G 0)), (1, .int x1), (2, .int x2), (3, .int x3), (4, .int x4), (5, .int x5), (7, .long x7), (9, .int x9)] → W p l e rmX8_errs s m args below meth c H locs 0 0 (MQ below (lb_QL G qr.1 qr.2) args s 0 0 (lb_A G)) (F0 m 82 ls []) := by
  have hx := X.1
  have hb := X.2.1
  intro n
  induction n with
  | zero => intro x1 x2 x3 x4 x5 x7 x9 σ H locs ls h hW hl; exact absurd h (fun z => by cases z)
  | succ n ih =>
    intro x1 x2 x3 x4 x5 x7 x9 σ H locs ls h hW hl
    have h : (if ((1 : Int32) <<< (x2 &&& 31)) ≤ x9 then (f_X8_power x3 x2).bind (fun q131 => (f_X8_ofFraction x7 q131 x5).bind (fun q136 => some (q136, σ))) else (f_X8_graceIfErring x1 x2 x9 σ).bind (fun q95 => if q95.1 < x4 then f_X8_errs_82 n x1 x2 x3 x4 x5 x7 (x9 + 1) q95.2 else (f_X8_power (x3 - (1 : Int32)) (x2 - (f_J6_bitCount_0f7a4 x9))).bind (fun q115 => lb_let ((x7 + q115)) (fun v119 : Int64 => f_X8_errs_82 n x1 x2 x3 x4 x5 v119 (x9 + 1) q95.2)))) = some qr := h
    refine lv_iload hx hb dX8_errs_82 (lv_at hl 7 rfl) ?_
    refine lv_iconst (v := 1) hx hb dX8_errs_84 rfl ?_
    refine lv_iload_n hx hb dX8_errs_85 rfl (lv_at hl 2 rfl) ?_
    refine lv_ishl hx hb dX8_errs_86 ?_
    refine lv_icmp_ge (tgt := 127) hx hb dX8_errs_87 (by decide) (fun c87 => ?_) (fun c87 => ?_)
    · have h := (if_pos c87).symm.trans h
      refine lv_lload hx hb dX8_errs_127 (lv_at hl 6 rfl) ?_
      refine lv_iload_n hx hb dX8_errs_129 rfl (lv_at hl 3 rfl) ?_
      refine lv_iload_n hx hb dX8_errs_130 rfl (lv_at hl 2 rfl) ?_
      obtain ⟨q131, e131, h⟩ := lb_bind h
      refine rc_X8_218 X hW e131 ⟨⟨rfl, rfl⟩, Nat.le_of_ble_eq_true rfl, Nat.le_of_ble_eq_true rfl⟩ hl.1 (Nat.le_of_ble_eq_true rfl) dX8_errs_131 ⟨Nat.zero_le _, Nat.zero_le _⟩ (fun H locs hW => ?_)
      refine lv_iload hx hb dX8_errs_134 (lv_at hl 5 rfl) ?_
      obtain ⟨q136, e136, h⟩ := lb_bind h
      refine rc_X8_222 X hW e136 ⟨⟨rfl, rfl⟩, Nat.le_of_ble_eq_true rfl, Nat.le_of_ble_eq_true rfl⟩ hl.1 (Nat.le_of_ble_eq_true rfl) dX8_errs_136 ⟨Nat.zero_le _, Nat.zero_le _⟩ (fun H locs hW => ?_)
      obtain rfl := Option.some.inj h
      exact lb_lret X hW dX8_errs_139
    · have h := (if_neg c87).symm.trans h
      refine lv_aload_n hx hb dX8_errs_90 rfl (lv_at hl 0 rfl) ?_
      refine lv_iload_n hx hb dX8_errs_91 rfl (lv_at hl 1 rfl) ?_
      refine lv_iload_n hx hb dX8_errs_92 rfl (lv_at hl 2 rfl) ?_
      refine lv_iload hx hb dX8_errs_93 (lv_at hl 7 rfl) ?_
      obtain ⟨q95, e95, h⟩ := lb_bind h
      refine rc_X8_215 X hW e95 ⟨⟨rfl, rfl⟩, Nat.le_of_ble_eq_true rfl, Nat.le_of_ble_eq_true rfl⟩ hl.1 (Nat.le_of_ble_eq_true rfl) dX8_errs_95 ⟨Nat.zero_le _, Nat.zero_le _⟩ (fun H locs hW => ?_)
      refine lv_iload hx hb dX8_errs_98 (lv_at hl 4 rfl) ?_
      refine lv_icmp_lt (tgt := 121) hx hb dX8_errs_100 (by decide) (fun c100 => ?_) (fun c100 => ?_)
      · have h := (if_pos c100).symm.trans h
        refine lv_iinc (v := (x9 + 1)) (lv' := [(9, .int (x9 + 1)), (0, .ref (lb_ad G 0)), (1, .int x1), (2, .int x2), (3, .int x3), (4, .int x4), (5, .int x5), (7, .long x7)]) hx hb dX8_errs_121 hl (k := 7) rfl rfl (by decide) rfl (fun ls hl => ?_)
        refine lv_goto (tgt := 82) hx hb dX8_errs_124 (by decide) ?_
        exact ih x1 x2 x3 x4 x5 x7 (x9 + 1) q95.2 _ _ _ h hW (lv_sub hl [1, 2, 3, 4, 5, 6, 7, 0] rfl)
      · have h := (if_neg c100).symm.trans h
        refine lv_lload hx hb dX8_errs_103 (lv_at hl 6 rfl) ?_
        refine lv_iload_n hx hb dX8_errs_105 rfl (lv_at hl 3 rfl) ?_
        refine lv_iconst (v := 1) hx hb dX8_errs_106 rfl ?_
        refine lv_isub hx hb dX8_errs_107 ?_
        refine lv_iload_n hx hb dX8_errs_108 rfl (lv_at hl 2 rfl) ?_
        refine lv_iload hx hb dX8_errs_109 (lv_at hl 7 rfl) ?_
        refine rc_X8_193 X hW x9 ⟨⟨rfl, rfl⟩, Nat.le_of_ble_eq_true rfl, Nat.le_of_ble_eq_true rfl⟩ hl.1 (Nat.le_of_ble_eq_true rfl) dX8_errs_111 ⟨Nat.zero_le _, Nat.zero_le _⟩ (fun H locs hW => ?_)
        refine lv_isub hx hb dX8_errs_114 ?_
        obtain ⟨q115, e115, h⟩ := lb_bind h
        refine rc_X8_218 X hW e115 ⟨⟨rfl, rfl⟩, Nat.le_of_ble_eq_true rfl, Nat.le_of_ble_eq_true rfl⟩ hl.1 (Nat.le_of_ble_eq_true rfl) dX8_errs_115 ⟨Nat.zero_le _, Nat.zero_le _⟩ (fun H locs hW => ?_)
        refine lv_ladd hx hb dX8_errs_118 ?_
        refine lv_topl (fun v119 e119 => ?_)
        have h := lb_letI e119 h
        refine lv_lstore (lv' := [(7, .long v119), (0, .ref (lb_ad G 0)), (1, .int x1), (2, .int x2), (3, .int x3), (4, .int x4), (5, .int x5), (9, .int x9)]) hx hb dX8_errs_119 hl (by decide) rfl (fun ls hl => ?_)
        refine lv_iinc (v := (x9 + 1)) (lv' := [(9, .int (x9 + 1)), (7, .long v119), (0, .ref (lb_ad G 0)), (1, .int x1), (2, .int x2), (3, .int x3), (4, .int x4), (5, .int x5)]) hx hb dX8_errs_121 hl (k := 7) rfl rfl (by decide) rfl (fun ls hl => ?_)
        refine lv_goto (tgt := 82) hx hb dX8_errs_124 (by decide) ?_
        exact ih x1 x2 x3 x4 x5 v119 (x9 + 1) q95.2 _ _ _ h hW (lv_sub hl [2, 3, 4, 5, 6, 7, 1, 0] rfl)
def f_X8_errs_50 (x1 : Int32) (x2 : Int32) (x3 : Int32) (x4 : Int32) (x5 : Int32) (σ : lb_Mem) (y0 : Int32) (y1 : Int32) (y2 : Int32) : Option (Int64 × lb_Mem) := lb_let ((f_X8_first_ y0 y1 (f_X8_first y2 (f_X8_known x5 (1 : Int32))))) (fun v62 : Int32 => if v62 = 0 then f_X8_errs_82 lb_N x1 x2 x3 x4 x5 (0 : Int64) (0 : Int32) σ else (f_X8_refuseFarthest v62 σ).bind (fun q72 => some (q72.1, q72.2)))
set_option maxRecDepth 20000 in
set_option maxHeartbeats 4000000 in
theorem w_X8_errs_50 {p : Program} {l : Launch} {e : Env} {s : State} {m : MethodId} {args : Array Value} {below : List Frame} {meth : Method} {c : Code} {G : lb_G} {qr : (Int64 × lb_Mem)} (X : lb_C G p s m args meth c cX8_errs 10 RX8 (some .long)) : ∀ (x1 : Int32) (x2 : Int32) (x3 : Int32) (x4 : Int32) (x5 : Int32) (σ : lb_Mem) (y0 : Int32) (y1 : Int32) (y2 : Int32) (H : Heap) (locs : List Loc) (ls : Array Slot), f_X8_errs_50 x1 x2 x3 x4 x5 σ y0 y1 y2 = some qr → lb_W G s σ H locs → lv_has ls 10 [(0, .ref (lb_ad G 0)), (1, .int x1), (2, .int x2), (3, .int x3), (4, .int x4), (5, .int x5)] → W p l e rmX8_errs s m args below meth c H locs 0 0 (MQ below (lb_QL G qr.1 qr.2) args s 0 0 (lb_A G)) (F0 m 50 ls [.int y2, .int y1, .int y0]) := by
  have hx := X.1
  have hb := X.2.1
  intro x1 x2 x3 x4 x5 σ y0 y1 y2 H locs ls h hW hl
  have h : (lb_let ((f_X8_first_ y0 y1 (f_X8_first y2 (f_X8_known x5 (1 : Int32))))) (fun v62 : Int32 => if v62 = 0 then f_X8_errs_82 lb_N x1 x2 x3 x4 x5 (0 : Int64) (0 : Int32) σ else (f_X8_refuseFarthest v62 σ).bind (fun q72 => some (q72.1, q72.2)))) = some qr := h
  refine lv_iload hx hb dX8_errs_50 (lv_at hl 5 rfl) ?_
  refine lv_iconst (v := 1) hx hb dX8_errs_52 rfl ?_
  refine rc_X8_86 X hW x5 (1 : Int32) ⟨⟨rfl, rfl⟩, Nat.le_of_ble_eq_true rfl, Nat.le_of_ble_eq_true rfl⟩ hl.1 (Nat.le_of_ble_eq_true rfl) dX8_errs_53 ⟨Nat.zero_le _, Nat.zero_le _⟩ (fun H locs hW => ?_)
  refine rc_X8_51 X hW y2 (f_X8_known x5 (1 : Int32)) ⟨⟨rfl, rfl⟩, Nat.le_of_ble_eq_true rfl, Nat.le_of_ble_eq_true rfl⟩ hl.1 (Nat.le_of_ble_eq_true rfl) dX8_errs_56 ⟨Nat.zero_le _, Nat.zero_le _⟩ (fun H locs hW => ?_)
  refine rc_X8_135 X hW y0 y1 (f_X8_first y2 (f_X8_known x5 (1 : Int32))) ⟨⟨rfl, rfl⟩, Nat.le_of_ble_eq_true rfl, Nat.le_of_ble_eq_true rfl⟩ hl.1 (Nat.le_of_ble_eq_true rfl) dX8_errs_59 ⟨Nat.zero_le _, Nat.zero_le _⟩ (fun H locs hW => ?_)
  refine lv_topi (fun v62 e62 => ?_)
  have h := lb_letI e62 h
  refine lv_istore (lv' := [(6, .int v62), (0, .ref (lb_ad G 0)), (1, .int x1), (2, .int x2), (3, .int x3), (4, .int x4), (5, .int x5)]) hx hb dX8_errs_62 hl (by decide) rfl (fun ls hl => ?_)
  refine lv_iload hx hb dX8_errs_64 (lv_at hl 0 rfl) ?_
  refine lv_if_eq (tgt := 76) hx hb dX8_errs_66 (by decide) (fun c66 => ?_) (fun c66 => ?_)
  · have h := (if_pos c66).symm.trans h
    refine lv_lconst (v := 0) hx hb dX8_errs_76 rfl ?_
    refine lv_lstore (lv' := [(7, .long (0 : Int64)), (6, .int v62), (0, .ref (lb_ad G 0)), (1, .int x1), (2, .int x2), (3, .int x3), (4, .int x4), (5, .int x5)]) hx hb dX8_errs_77 hl (by decide) rfl (fun ls hl => ?_)
    refine lv_iconst (v := 0) hx hb dX8_errs_79 rfl ?_
    refine lv_istore (lv' := [(9, .int (0 : Int32)), (7, .long (0 : Int64)), (6, .int v62), (0, .ref (lb_ad G 0)), (1, .int x1), (2, .int x2), (3, .int x3), (4, .int x4), (5, .int x5)]) hx hb dX8_errs_80 hl (by decide) rfl (fun ls hl => ?_)
    exact w_X8_errs_82 X lb_N x1 x2 x3 x4 x5 (0 : Int64) (0 : Int32) σ _ _ _ h hW (lv_sub hl [3, 4, 5, 6, 7, 8, 1, 0] rfl)
  · have h := (if_neg c66).symm.trans h
    refine lv_aload_n hx hb dX8_errs_69 rfl (lv_at hl 1 rfl) ?_
    refine lv_iload hx hb dX8_errs_70 (lv_at hl 0 rfl) ?_
    obtain ⟨q72, e72, h⟩ := lb_bind h
    refine rc_X8_211 X hW e72 ⟨⟨rfl, rfl⟩, Nat.le_of_ble_eq_true rfl, Nat.le_of_ble_eq_true rfl⟩ hl.1 (Nat.le_of_ble_eq_true rfl) dX8_errs_72 ⟨Nat.zero_le _, Nat.zero_le _⟩ (fun H locs hW => ?_)
    obtain rfl := Option.some.inj h
    exact lb_lret X hW dX8_errs_75
def f_X8_errs_44 (x1 : Int32) (x2 : Int32) (x3 : Int32) (x4 : Int32) (x5 : Int32) (σ : lb_Mem) (y0 : Int32) (y1 : Int32) : Option (Int64 × lb_Mem) := f_X8_errs_50 x1 x2 x3 x4 x5 σ y0 y1 (-6 : Int32)
set_option maxRecDepth 20000 in
set_option maxHeartbeats 4000000 in
theorem w_X8_errs_44 {p : Program} {l : Launch} {e : Env} {s : State} {m : MethodId} {args : Array Value} {below : List Frame} {meth : Method} {c : Code} {G : lb_G} {qr : (Int64 × lb_Mem)} (X : lb_C G p s m args meth c cX8_errs 10 RX8 (some .long)) : ∀ (x1 : Int32) (x2 : Int32) (x3 : Int32) (x4 : Int32) (x5 : Int32) (σ : lb_Mem) (y0 : Int32) (y1 : Int32) (H : Heap) (locs : List Loc) (ls : Array Slot), f_X8_errs_44 x1 x2 x3 x4 x5 σ y0 y1 = some qr → lb_W G s σ H locs → lv_has ls 10 [(0, .ref (lb_ad G 0)), (1, .int x1), (2, .int x2), (3, .int x3), (4, .int x4), (5, .int x5)] → W p l e rmX8_errs s m args below meth c H locs 0 0 (MQ below (lb_QL G qr.1 qr.2) args s 0 0 (lb_A G)) (F0 m 44 ls [.int y1, .int y0]) := by
  have hx := X.1
  have hb := X.2.1
  intro x1 x2 x3 x4 x5 σ y0 y1 H locs ls h hW hl
  have h : (f_X8_errs_50 x1 x2 x3 x4 x5 σ y0 y1 (-6 : Int32)) = some qr := h
  refine lv_bipush (v := -6) hx hb dX8_errs_44 rfl ?_
  refine lv_goto (tgt := 50) hx hb dX8_errs_46 (by decide) ?_
  exact w_X8_errs_50 X x1 x2 x3 x4 x5 σ y0 y1 (-6 : Int32) _ _ _ h hW (lv_sub hl [0, 1, 2, 3, 4, 5] rfl)
def f_X8_errs_25 (x1 : Int32) (x2 : Int32) (x3 : Int32) (x4 : Int32) (x5 : Int32) (σ : lb_Mem) (y0 : Int32) (y1 : Int32) : Option (Int64 × lb_Mem) := if (7 : Int32) < x2 then f_X8_errs_44 x1 x2 x3 x4 x5 σ y0 y1 else if (20 : Int32) < x3 then f_X8_errs_44 x1 x2 x3 x4 x5 σ y0 y1 else if x4 ≤ (99 : Int32) then f_X8_errs_50 x1 x2 x3 x4 x5 σ y0 y1 (0 : Int32) else f_X8_errs_44 x1 x2 x3 x4 x5 σ y0 y1
set_option maxRecDepth 20000 in
set_option maxHeartbeats 4000000 in
theorem w_X8_errs_25 {p : Program} {l : Launch} {e : Env} {s : State} {m : MethodId} {args : Array Value} {below : List Frame} {meth : Method} {c : Code} {G : lb_G} {qr : (Int64 × lb_Mem)} (X : lb_C G p s m args meth c cX8_errs 10 RX8 (some .long)) : ∀ (x1 : Int32) (x2 : Int32) (x3 : Int32) (x4 : Int32) (x5 : Int32) (σ : lb_Mem) (y0 : Int32) (y1 : Int32) (H : Heap) (locs : List Loc) (ls : Array Slot), f_X8_errs_25 x1 x2 x3 x4 x5 σ y0 y1 = some qr → lb_W G s σ H locs → lv_has ls 10 [(0, .ref (lb_ad G 0)), (1, .int x1), (2, .int x2), (3, .int x3), (4, .int x4), (5, .int x5)] → W p l e rmX8_errs s m args below meth c H locs 0 0 (MQ below (lb_QL G qr.1 qr.2) args s 0 0 (lb_A G)) (F0 m 25 ls [.int y1, .int y0]) := by
  have hx := X.1
  have hb := X.2.1
  intro x1 x2 x3 x4 x5 σ y0 y1 H locs ls h hW hl
  have h : (if (7 : Int32) < x2 then f_X8_errs_44 x1 x2 x3 x4 x5 σ y0 y1 else if (20 : Int32) < x3 then f_X8_errs_44 x1 x2 x3 x4 x5 σ y0 y1 else if x4 ≤ (99 : Int32) then f_X8_errs_50 x1 x2 x3 x4 x5 σ y0 y1 (0 : Int32) else f_X8_errs_44 x1 x2 x3 x4 x5 σ y0 y1) = some qr := h
  refine lv_iload_n hx hb dX8_errs_25 rfl (lv_at hl 2 rfl) ?_
  refine lv_bipush (v := 7) hx hb dX8_errs_26 rfl ?_
  refine lv_icmp_gt (tgt := 44) hx hb dX8_errs_28 (by decide) (fun c28 => ?_) (fun c28 => ?_)
  · have h := (if_pos c28).symm.trans h
    exact w_X8_errs_44 X x1 x2 x3 x4 x5 σ y0 y1 _ _ _ h hW (lv_sub hl [0, 1, 2, 3, 4, 5] rfl)
  · have h := (if_neg c28).symm.trans h
    refine lv_iload_n hx hb dX8_errs_31 rfl (lv_at hl 3 rfl) ?_
    refine lv_bipush (v := 20) hx hb dX8_errs_32 rfl ?_
    refine lv_icmp_gt (tgt := 44) hx hb dX8_errs_34 (by decide) (fun c34 => ?_) (fun c34 => ?_)
    · have h := (if_pos c34).symm.trans h
      exact w_X8_errs_44 X x1 x2 x3 x4 x5 σ y0 y1 _ _ _ h hW (lv_sub hl [0, 1, 2, 3, 4, 5] rfl)
    · have h := (if_neg c34).symm.trans h
      refine lv_iload hx hb dX8_errs_37 (lv_at hl 4 rfl) ?_
      refine lv_bipush (v := 99) hx hb dX8_errs_39 rfl ?_
      refine lv_icmp_le (tgt := 49) hx hb dX8_errs_41 (by decide) (fun c41 => ?_) (fun c41 => ?_)
      · have h := (if_pos c41).symm.trans h
        refine lv_iconst (v := 0) hx hb dX8_errs_49 rfl ?_
        exact w_X8_errs_50 X x1 x2 x3 x4 x5 σ y0 y1 (0 : Int32) _ _ _ h hW (lv_sub hl [0, 1, 2, 3, 4, 5] rfl)
      · have h := (if_neg c41).symm.trans h
        exact w_X8_errs_44 X x1 x2 x3 x4 x5 σ y0 y1 _ _ _ h hW (lv_sub hl [0, 1, 2, 3, 4, 5] rfl)
def f_X8_errs_19 (x1 : Int32) (x2 : Int32) (x3 : Int32) (x4 : Int32) (x5 : Int32) (σ : lb_Mem) (y0 : Int32) : Option (Int64 × lb_Mem) := f_X8_errs_25 x1 x2 x3 x4 x5 σ y0 (-4 : Int32)
set_option maxRecDepth 20000 in
set_option maxHeartbeats 4000000 in
theorem w_X8_errs_19 {p : Program} {l : Launch} {e : Env} {s : State} {m : MethodId} {args : Array Value} {below : List Frame} {meth : Method} {c : Code} {G : lb_G} {qr : (Int64 × lb_Mem)} (X : lb_C G p s m args meth c cX8_errs 10 RX8 (some .long)) : ∀ (x1 : Int32) (x2 : Int32) (x3 : Int32) (x4 : Int32) (x5 : Int32) (σ : lb_Mem) (y0 : Int32) (H : Heap) (locs : List Loc) (ls : Array Slot), f_X8_errs_19 x1 x2 x3 x4 x5 σ y0 = some qr → lb_W G s σ H locs → lv_has ls 10 [(0, .ref (lb_ad G 0)), (1, .int x1), (2, .int x2), (3, .int x3), (4, .int x4), (5, .int x5)] → W p l e rmX8_errs s m args below meth c H locs 0 0 (MQ below (lb_QL G qr.1 qr.2) args s 0 0 (lb_A G)) (F0 m 19 ls [.int y0]) := by
  have hx := X.1
  have hb := X.2.1
  intro x1 x2 x3 x4 x5 σ y0 H locs ls h hW hl
  have h : (f_X8_errs_25 x1 x2 x3 x4 x5 σ y0 (-4 : Int32)) = some qr := h
  refine lv_bipush (v := -4) hx hb dX8_errs_19 rfl ?_
  refine lv_goto (tgt := 25) hx hb dX8_errs_21 (by decide) ?_
  exact w_X8_errs_25 X x1 x2 x3 x4 x5 σ y0 (-4 : Int32) _ _ _ h hW (lv_sub hl [0, 1, 2, 3, 4, 5] rfl)
def f_X8_errs (x1 : Int32) (x2 : Int32) (x3 : Int32) (x4 : Int32) (x5 : Int32) (σ : lb_Mem) : Option (Int64 × lb_Mem) := if x2 < 0 then f_X8_errs_19 x1 x2 x3 x4 x5 σ (f_X8_personThere σ x1) else if x4 < 0 then f_X8_errs_19 x1 x2 x3 x4 x5 σ (f_X8_personThere σ x1) else if (2 : Int32) ≤ x3 then f_X8_errs_25 x1 x2 x3 x4 x5 σ (f_X8_personThere σ x1) (0 : Int32) else f_X8_errs_19 x1 x2 x3 x4 x5 σ (f_X8_personThere σ x1)
set_option maxRecDepth 20000 in
set_option maxHeartbeats 4000000 in
theorem m_X8_errs (l : Launch) (G : lb_G) (σ : lb_Mem) (x1 : Int32) (x2 : Int32) (x3 : Int32) (x4 : Int32) (x5 : Int32) (qr : (Int64 × lb_Mem)) (h : f_X8_errs x1 x2 x3 x4 x5 σ = some qr) : lb_M l yX8_errs cX8_errs 10 (some .long) rmX8_errs [.ref (lb_ad G 0), .int x1, .int x2, .int x3, .int x4, .int x5] G σ (lb_QL G qr.1 qr.2) := by
  refine lb_start RX8 (by decide +kernel) rfl (Nat.le_of_ble_eq_true rfl) (fun p e s m below meth c X hW ls hl => ?_)
  have hx := X.1
  have hb := X.2.1
  have hl : lv_has ls 10 [(0, .ref (lb_ad G 0)), (1, .int x1), (2, .int x2), (3, .int x3), (4, .int x4), (5, .int x5)] := hl
  have h : (if x2 < 0 then f_X8_errs_19 x1 x2 x3 x4 x5 σ (f_X8_personThere σ x1) else if x4 < 0 then f_X8_errs_19 x1 x2 x3 x4 x5 σ (f_X8_personThere σ x1) else if (2 : Int32) ≤ x3 then f_X8_errs_25 x1 x2 x3 x4 x5 σ (f_X8_personThere σ x1) (0 : Int32) else f_X8_errs_19 x1 x2 x3 x4 x5 σ (f_X8_personThere σ x1)) = some qr := h
  skip
  refine lv_aload_n hx hb dX8_errs_0 rfl (lv_at hl 0 rfl) ?_
  refine lv_iload_n hx hb dX8_errs_1 rfl (lv_at hl 1 rfl) ?_
  refine rc_X8_107 X hW x1 ⟨⟨rfl, rfl⟩, Nat.le_of_ble_eq_true rfl, Nat.le_of_ble_eq_true rfl⟩ hl.1 (Nat.le_of_ble_eq_true rfl) dX8_errs_2 ⟨Nat.zero_le _, Nat.zero_le _⟩ (fun H locs hW => ?_)
  refine lv_iload_n hx hb dX8_errs_5 rfl (lv_at hl 2 rfl) ?_
  refine lv_if_lt (tgt := 19) hx hb dX8_errs_6 (by decide) (fun c6 => ?_) (fun c6 => ?_)
  · have h := (if_pos c6).symm.trans h
    exact w_X8_errs_19 X x1 x2 x3 x4 x5 σ (f_X8_personThere σ x1) _ _ _ h hW (lv_sub hl [0, 1, 2, 3, 4, 5] rfl)
  · have h := (if_neg c6).symm.trans h
    refine lv_iload hx hb dX8_errs_9 (lv_at hl 4 rfl) ?_
    refine lv_if_lt (tgt := 19) hx hb dX8_errs_11 (by decide) (fun c11 => ?_) (fun c11 => ?_)
    · have h := (if_pos c11).symm.trans h
      exact w_X8_errs_19 X x1 x2 x3 x4 x5 σ (f_X8_personThere σ x1) _ _ _ h hW (lv_sub hl [0, 1, 2, 3, 4, 5] rfl)
    · have h := (if_neg c11).symm.trans h
      refine lv_iload_n hx hb dX8_errs_14 rfl (lv_at hl 3 rfl) ?_
      refine lv_iconst (v := 2) hx hb dX8_errs_15 rfl ?_
      refine lv_icmp_ge (tgt := 24) hx hb dX8_errs_16 (by decide) (fun c16 => ?_) (fun c16 => ?_)
      · have h := (if_pos c16).symm.trans h
        refine lv_iconst (v := 0) hx hb dX8_errs_24 rfl ?_
        exact w_X8_errs_25 X x1 x2 x3 x4 x5 σ (f_X8_personThere σ x1) (0 : Int32) _ _ _ h hW (lv_sub hl [0, 1, 2, 3, 4, 5] rfl)
      · have h := (if_neg c16).symm.trans h
        exact w_X8_errs_19 X x1 x2 x3 x4 x5 σ (f_X8_personThere σ x1) _ _ _ h hW (lv_sub hl [0, 1, 2, 3, 4, 5] rfl)
abbrev rmX8_mean : Room := { frames := 2, cells := 0, slots := 0, locals := 56 }
def f_X8_mean (x1 : Int32) (σ : lb_Mem) : Option (Int64 × lb_Mem) := lb_let ((f_X8_known x1 (1 : Int32))) (fun v5 : Int32 => if v5 = 0 then (f_X7_allGrace σ 1).bind (fun q20 => (f_X8_ofFraction (q20.toInt64) ((if (1 : Int32) < (σ 1 10) then (σ 1 10) else (1 : Int32)).toInt64) x1).bind (fun q37 => some (q37, σ))) else (f_X8_refuseFarthest v5 σ).bind (fun q12 => some (q12.1, q12.2)))
set_option maxRecDepth 20000 in
set_option maxHeartbeats 4000000 in
theorem m_X8_mean (l : Launch) (G : lb_G) (σ : lb_Mem) (x1 : Int32) (qr : (Int64 × lb_Mem)) (h : f_X8_mean x1 σ = some qr) : lb_M l yX8_mean cX8_mean 3 (some .long) rmX8_mean [.ref (lb_ad G 0), .int x1] G σ (lb_QL G qr.1 qr.2) := by
  refine lb_start RX8 (by decide +kernel) rfl (Nat.le_of_ble_eq_true rfl) (fun p e s m below meth c X hW ls hl => ?_)
  have hx := X.1
  have hb := X.2.1
  have hl : lv_has ls 3 [(0, .ref (lb_ad G 0)), (1, .int x1)] := hl
  have h : (lb_let ((f_X8_known x1 (1 : Int32))) (fun v5 : Int32 => if v5 = 0 then (f_X7_allGrace σ 1).bind (fun q20 => (f_X8_ofFraction (q20.toInt64) ((if (1 : Int32) < (σ 1 10) then (σ 1 10) else (1 : Int32)).toInt64) x1).bind (fun q37 => some (q37, σ))) else (f_X8_refuseFarthest v5 σ).bind (fun q12 => some (q12.1, q12.2)))) = some qr := h
  skip
  refine lv_iload_n hx hb dX8_mean_0 rfl (lv_at hl 1 rfl) ?_
  refine lv_iconst (v := 1) hx hb dX8_mean_1 rfl ?_
  refine rc_X8_86 X hW x1 (1 : Int32) ⟨⟨rfl, rfl⟩, Nat.le_of_ble_eq_true rfl, Nat.le_of_ble_eq_true rfl⟩ hl.1 (Nat.le_of_ble_eq_true rfl) dX8_mean_2 ⟨Nat.zero_le _, Nat.zero_le _⟩ (fun H locs hW => ?_)
  refine lv_topi (fun v5 e5 => ?_)
  have h := lb_letI e5 h
  refine lv_istore_n (lv' := [(2, .int v5), (0, .ref (lb_ad G 0)), (1, .int x1)]) hx hb dX8_mean_5 rfl hl (by decide) rfl (fun ls hl => ?_)
  refine lv_iload_n hx hb dX8_mean_6 rfl (lv_at hl 0 rfl) ?_
  refine lv_if_eq (tgt := 16) hx hb dX8_mean_7 (by decide) (fun c7 => ?_) (fun c7 => ?_)
  · have h := (if_pos c7).symm.trans h
    refine lv_aload_n hx hb dX8_mean_16 rfl (lv_at hl 1 rfl) ?_
    refine rg_X8_10 X hW dX8_mean_17 ?_
    obtain ⟨q20, e20, h⟩ := lb_bind h
    refine rc_X8_143 X hW lb_V1 e20 ⟨⟨rfl, rfl⟩, Nat.le_of_ble_eq_true rfl, Nat.le_of_ble_eq_true rfl⟩ hl.1 (Nat.le_of_ble_eq_true rfl) dX8_mean_20 ⟨Nat.zero_le _, Nat.zero_le _⟩ (fun H locs hW => ?_)
    refine lv_i2l (v := q20.toInt64) hx hb dX8_mean_23 rfl ?_
    refine lv_iconst (v := 1) hx hb dX8_mean_24 rfl ?_
    refine lv_aload_n hx hb dX8_mean_25 rfl (lv_at hl 1 rfl) ?_
    refine rg_X8_10 X hW dX8_mean_26 ?_
    refine rg_X8_156 X hW lb_V1 dX8_mean_29 ?_
    refine va_mmax hx hb (by rw [X.2.2.1]; exact hl.1.symm) X.2.2.2.1 (X.2.2.2.2.1 _ qw_454) (X.2.2.2.2.1 _ qw_278) (X.2.2.2.2.1 _ qw_55) (X.2.2.2.2.1 _ qw_279) (Nat.le_of_ble_eq_true rfl) (Nat.le_of_ble_eq_true rfl) (Nat.zero_le _) (Nat.zero_le _) dX8_mean_32 ?_
    refine lv_i2l (v := (if (1 : Int32) < (σ 1 10) then (σ 1 10) else (1 : Int32)).toInt64) hx hb dX8_mean_35 rfl ?_
    refine lv_iload_n hx hb dX8_mean_36 rfl (lv_at hl 2 rfl) ?_
    obtain ⟨q37, e37, h⟩ := lb_bind h
    refine rc_X8_222 X hW e37 ⟨⟨rfl, rfl⟩, Nat.le_of_ble_eq_true rfl, Nat.le_of_ble_eq_true rfl⟩ hl.1 (Nat.le_of_ble_eq_true rfl) dX8_mean_37 ⟨Nat.zero_le _, Nat.zero_le _⟩ (fun H locs hW => ?_)
    obtain rfl := Option.some.inj h
    exact lb_lret X hW dX8_mean_40
  · have h := (if_neg c7).symm.trans h
    refine lv_aload_n hx hb dX8_mean_10 rfl (lv_at hl 1 rfl) ?_
    refine lv_iload_n hx hb dX8_mean_11 rfl (lv_at hl 0 rfl) ?_
    obtain ⟨q12, e12, h⟩ := lb_bind h
    refine rc_X8_211 X hW e12 ⟨⟨rfl, rfl⟩, Nat.le_of_ble_eq_true rfl, Nat.le_of_ble_eq_true rfl⟩ hl.1 (Nat.le_of_ble_eq_true rfl) dX8_mean_12 ⟨Nat.zero_le _, Nat.zero_le _⟩ (fun H locs hW => ?_)
    obtain rfl := Option.some.inj h
    exact lb_lret X hW dX8_mean_15
abbrev rmX8_goesAsRow : Room := { frames := 5, cells := 0, slots := 0, locals := 119 }
def f_X8_goesAsRow_2 : Nat → Int32 → Int32 → lb_Mem → Option (Int32 × lb_Mem)
  | 0, _, _, _ => none
  | n + 1, x1, x2, σ => if (σ 0 6) ≤ x2 then some ((1 : Int32), σ) else lb_chk (lb_ix x1 5) (lb_chk (lb_ix x2 16) (if (σ 32 x1.toNatClampNeg) = (σ 51 x2.toNatClampNeg) then (f_X7_passFor 17 x1 (1 : Int32) σ).bind (fun s36 => f_X8_goesAsRow_2 n x1 (x2 + 1) s36) else some ((0 : Int32), σ)))
set_option maxRecDepth 20000 in
set_option maxHeartbeats 4000000 in
theorem w_X8_goesAsRow_2 {p : Program} {l : Launch} {e : Env} {s : State} {m : MethodId} {args : Array Value} {below : List Frame} {meth : Method} {c : Code} {G : lb_G} {qr : (Int32 × lb_Mem)} (X : lb_C G p s m args meth c cX8_goesAsRow 3 RX8 (some .boolean)) : ∀ (n : Nat) (x1 : Int32) (x2 : Int32) (σ : lb_Mem) (H : Heap) (locs : List Loc) (ls : Array Slot), f_X8_goesAsRow_2 n x1 x2 σ = some qr → lb_W G s σ H locs → lv_has ls 3 [(0, .ref (lb_ad G 0)), (1, .int x1), (2, .int x2)] → W p l e rmX8_goesAsRow s m args below meth c H locs 0 0 (MQ below (lb_QI G qr.1 qr.2) args s 0 0 (lb_A G)) (F0 m 2 ls []) := by
  have hx := X.1
  have hb := X.2.1
  intro n
  induction n with
  | zero => intro x1 x2 σ H locs ls h hW hl; exact absurd h (fun z => by cases z)
  | succ n ih =>
    intro x1 x2 σ H locs ls h hW hl
    have h : (if (σ 0 6) ≤ x2 then some ((1 : Int32), σ) else lb_chk (lb_ix x1 5) (lb_chk (lb_ix x2 16) (if (σ 32 x1.toNatClampNeg) = (σ 51 x2.toNatClampNeg) then (f_X7_passFor 17 x1 (1 : Int32) σ).bind (fun s36 => f_X8_goesAsRow_2 n x1 (x2 + 1) s36) else some ((0 : Int32), σ)))) = some qr := h
    refine lv_iload_n hx hb dX8_goesAsRow_2 rfl (lv_at hl 2 rfl) ?_
    refine lv_aload_n hx hb dX8_goesAsRow_3 rfl (lv_at hl 0 rfl) ?_
    refine rg_X8_37 X hW dX8_goesAsRow_4 ?_
    refine lv_icmp_ge (tgt := 45) hx hb dX8_goesAsRow_7 (by decide) (fun c7 => ?_) (fun c7 => ?_)
    · have h := (if_pos c7).symm.trans h
      refine lv_iconst (v := 1) hx hb dX8_goesAsRow_45 rfl ?_
      obtain rfl := Option.some.inj h
      exact lb_zret X hW (Or.inr rfl) dX8_goesAsRow_46
    · have h := (if_neg c7).symm.trans h
      refine lv_aload_n hx hb dX8_goesAsRow_10 rfl (lv_at hl 0 rfl) ?_
      refine rg_X8_16 X hW dX8_goesAsRow_11 ?_
      refine rg_X8_113 (k := 32) X hW lb_V17 rfl dX8_goesAsRow_14 ?_
      refine lv_iload_n hx hb dX8_goesAsRow_17 rfl (lv_at hl 1 rfl) ?_
      obtain ⟨i18, h⟩ := lb_chk_in h
      refine lb_ild X hW (show lb_ar 32 = 4 + 1 from rfl) i18 dX8_goesAsRow_18 ?_
      refine lv_aload_n hx hb dX8_goesAsRow_19 rfl (lv_at hl 0 rfl) ?_
      refine rg_X8_33 X hW dX8_goesAsRow_20 ?_
      refine lv_iload_n hx hb dX8_goesAsRow_23 rfl (lv_at hl 2 rfl) ?_
      obtain ⟨i24, h⟩ := lb_chk_in h
      refine lb_ild X hW (show lb_ar 51 = 15 + 1 from rfl) i24 dX8_goesAsRow_24 ?_
      refine lv_icmp_eq (tgt := 30) hx hb dX8_goesAsRow_25 (by decide) (fun c25 => ?_) (fun c25 => ?_)
      · have h := (if_pos c25).symm.trans h
        refine lv_aload_n hx hb dX8_goesAsRow_30 rfl (lv_at hl 0 rfl) ?_
        refine rg_X8_16 X hW dX8_goesAsRow_31 ?_
        refine lv_iload_n hx hb dX8_goesAsRow_34 rfl (lv_at hl 1 rfl) ?_
        refine lv_iconst (v := 1) hx hb dX8_goesAsRow_35 rfl ?_
        obtain ⟨s36, e36, h⟩ := lb_bind h
        refine rc_X8_146 X hW lb_V17 e36 ⟨⟨rfl, rfl⟩, Nat.le_of_ble_eq_true rfl, Nat.le_of_ble_eq_true rfl⟩ hl.1 (Nat.le_of_ble_eq_true rfl) dX8_goesAsRow_36 ⟨Nat.zero_le _, Nat.zero_le _⟩ (fun H locs hW => ?_)
        refine lv_iinc (v := (x2 + 1)) (lv' := [(2, .int (x2 + 1)), (0, .ref (lb_ad G 0)), (1, .int x1)]) hx hb dX8_goesAsRow_39 hl (k := 2) rfl rfl (by decide) rfl (fun ls hl => ?_)
        refine lv_goto (tgt := 2) hx hb dX8_goesAsRow_42 (by decide) ?_
        exact ih x1 (x2 + 1) s36 _ _ _ h hW (lv_sub hl [1, 2, 0] rfl)
      · have h := (if_neg c25).symm.trans h
        refine lv_iconst (v := 0) hx hb dX8_goesAsRow_28 rfl ?_
        obtain rfl := Option.some.inj h
        exact lb_zret X hW (Or.inl rfl) dX8_goesAsRow_29
def f_X8_goesAsRow (x1 : Int32) (σ : lb_Mem) : Option (Int32 × lb_Mem) := f_X8_goesAsRow_2 lb_N x1 (0 : Int32) σ
set_option maxRecDepth 20000 in
set_option maxHeartbeats 4000000 in
theorem m_X8_goesAsRow (l : Launch) (G : lb_G) (σ : lb_Mem) (x1 : Int32) (qr : (Int32 × lb_Mem)) (h : f_X8_goesAsRow x1 σ = some qr) : lb_M l yX8_goesAsRow cX8_goesAsRow 3 (some .boolean) rmX8_goesAsRow [.ref (lb_ad G 0), .int x1] G σ (lb_QI G qr.1 qr.2) := by
  refine lb_start RX8 (by decide +kernel) rfl (Nat.le_of_ble_eq_true rfl) (fun p e s m below meth c X hW ls hl => ?_)
  have hx := X.1
  have hb := X.2.1
  have hl : lv_has ls 3 [(0, .ref (lb_ad G 0)), (1, .int x1)] := hl
  have h : (f_X8_goesAsRow_2 lb_N x1 (0 : Int32) σ) = some qr := h
  skip
  refine lv_iconst (v := 0) hx hb dX8_goesAsRow_0 rfl ?_
  refine lv_istore_n (lv' := [(2, .int (0 : Int32)), (0, .ref (lb_ad G 0)), (1, .int x1)]) hx hb dX8_goesAsRow_1 rfl hl (by decide) rfl (fun ls hl => ?_)
  exact w_X8_goesAsRow_2 X lb_N x1 (0 : Int32) σ _ _ _ h hW (lv_sub hl [1, 2, 0] rfl)
theorem rc_X8_229 {p : Program} {l : Launch} {e : Env} {R : Room} {s : State} {m : MethodId} {args : Array Value} {below : List Frame} {meth : Method} {c : Code} {H : Heap} {locs : List Loc} {cells slots : Nat} {Q : State → Prop} {cc : ByteArray} {pc nL : Nat} {ls : Array Slot} {rest : List Value} {G : lb_G} {σ : lb_Mem} {ret : Option FieldType} (X : lb_C G p s m args meth c cc nL RX8 ret) (hW : lb_W G s σ H locs) {x1 : Int32} {qr : (Int32 × lb_Mem)} (h : f_X8_goesAsRow x1 σ = some qr) (hR : lb_room rmX8_goesAsRow R 3) (hls : ls.size = nL) (hrest : (rest.map fun v => v.category).sum ≤ 8) (d : decode cc pc = .ok (.invokevirtual 229, 3)) (hcap : cells ≤ R.cells ∧ slots ≤ R.slots) (kk : ∀ (H1 : Heap) (locs1 : List Loc), lb_W G s qr.2 H1 locs1 → W p l e R s m args below meth c H1 locs1 cells slots Q (F0 m (pc + 3) ls (.int qr.1 :: rest))) : W p l e R s m args below meth c H locs cells slots Q (F0 m pc ls (.int x1 :: .ref (lb_ad G 0) :: rest)) :=
  lb_goI hW (lb_runV (As := [.int x1]) X hW (m_X8_goesAsRow l G σ x1 qr h) (n := 1) ⟨qw_711, qw_43, qw_714, by decide +kernel⟩ hR qw_713 qw_16 lb_is0 rfl hls hrest d hcap) kk
abbrev rmX8_whatIn : Room := { frames := 6, cells := 0, slots := 0, locals := 141 }
def f_X8_whatIn_90 (kc43 : Int32 → Int32 → Int32 → Int32 → Int32 → lb_Mem → Option (Int32 × lb_Mem)) (x1 : Int32) (x2 : Int32) (x4 : Int32) (x5 : Int32) (x6 : Int32) (σ : lb_Mem) : Option (Int32 × lb_Mem) := lb_chk (lb_ix x1 8) ((f_X8_goesAsRow (σ 30 x1.toNatClampNeg) σ).bind (fun q100 => if q100.1 = 0 then kc43 x1 x2 x4 x5 (x6 + 1) q100.2 else lb_let ((x5 ||| ((1 : Int32) <<< (x6 &&& 31)))) (fun v113 : Int32 => kc43 x1 x2 x4 v113 (x6 + 1) q100.2)))
set_option maxRecDepth 20000 in
set_option maxHeartbeats 4000000 in
theorem w_X8_whatIn_90 {p : Program} {l : Launch} {e : Env} {s : State} {m : MethodId} {args : Array Value} {below : List Frame} {meth : Method} {c : Code} {G : lb_G} {qr : (Int32 × lb_Mem)} (X : lb_C G p s m args meth c cX8_whatIn 7 RX8 (some .int)) {kc43 : Int32 → Int32 → Int32 → Int32 → Int32 → lb_Mem → Option (Int32 × lb_Mem)} (hc43 : ∀ (x1 : Int32) (x2 : Int32) (x4 : Int32) (x5 : Int32) (x6 : Int32) (σ : lb_Mem) (H : Heap) (locs : List Loc) (ls : Array Slot), kc43 x1 x2 x4 x5 x6 σ = some qr → lb_W G s σ H locs → lv_has ls 7 [(0, .ref (lb_ad G 0)), (1, .int x1), (2, .int x2), (4, .int x4), (5, .int x5), (6, .int x6)] → W p l e rmX8_whatIn s m args below meth c H locs 0 0 (MQ below (lb_QI G qr.1 qr.2) args s 0 0 (lb_A G)) (F0 m 43 ls [])) : ∀ (x1 : Int32) (x2 : Int32) (x4 : Int32) (x5 : Int32) (x6 : Int32) (σ : lb_Mem) (H : Heap) (locs : List Loc) (ls : Array Slot), f_X8_whatIn_90 kc43 x1 x2 x4 x5 x6 σ = some qr → lb_W G s σ H locs → lv_has ls 7 [(0, .ref (lb_ad G 0)), (1, .int x1), (2, .int x2), (4, .int x4), (5, .int x5), (6, .int x6)] → W p l e rmX8_whatIn s m args below meth c H locs 0 0 (MQ below (lb_QI G qr.1 qr.2) args s 0 0 (lb_A G)) (F0 m 90 ls []) := by
  have hx := X.1
  have hb := X.2.1
  intro x1 x2 x4 x5 x6 σ H locs ls h hW hl
  have h : (lb_chk (lb_ix x1 8) ((f_X8_goesAsRow (σ 30 x1.toNatClampNeg) σ).bind (fun q100 => if q100.1 = 0 then kc43 x1 x2 x4 x5 (x6 + 1) q100.2 else lb_let ((x5 ||| ((1 : Int32) <<< (x6 &&& 31)))) (fun v113 : Int32 => kc43 x1 x2 x4 v113 (x6 + 1) q100.2)))) = some qr := h
  refine lv_aload_n hx hb dX8_whatIn_90 rfl (lv_at hl 0 rfl) ?_
  refine lv_aload_n hx hb dX8_whatIn_91 rfl (lv_at hl 0 rfl) ?_
  refine rg_X8_16 X hW dX8_whatIn_92 ?_
  refine rg_X8_104 (k := 30) X hW lb_V17 rfl dX8_whatIn_95 ?_
  refine lv_iload_n hx hb dX8_whatIn_98 rfl (lv_at hl 1 rfl) ?_
  obtain ⟨i99, h⟩ := lb_chk_in h
  refine lb_ild X hW (show lb_ar 30 = 7 + 1 from rfl) i99 dX8_whatIn_99 ?_
  obtain ⟨q100, e100, h⟩ := lb_bind h
  refine rc_X8_229 X hW e100 ⟨⟨rfl, rfl⟩, Nat.le_of_ble_eq_true rfl, Nat.le_of_ble_eq_true rfl⟩ hl.1 (Nat.le_of_ble_eq_true rfl) dX8_whatIn_100 ⟨Nat.zero_le _, Nat.zero_le _⟩ (fun H locs hW => ?_)
  refine lv_if_eq (tgt := 115) hx hb dX8_whatIn_103 (by decide) (fun c103 => ?_) (fun c103 => ?_)
  · have h := (if_pos c103).symm.trans h
    refine lv_iinc (v := (x6 + 1)) (lv' := [(6, .int (x6 + 1)), (0, .ref (lb_ad G 0)), (1, .int x1), (2, .int x2), (4, .int x4), (5, .int x5)]) hx hb dX8_whatIn_115 hl (k := 5) rfl rfl (by decide) rfl (fun ls hl => ?_)
    refine lv_goto (tgt := 43) hx hb dX8_whatIn_118 (by decide) ?_
    exact hc43 x1 x2 x4 x5 (x6 + 1) q100.2 _ _ _ h hW (lv_sub hl [1, 2, 3, 4, 5, 0] rfl)
  · have h := (if_neg c103).symm.trans h
    refine lv_iload hx hb dX8_whatIn_106 (lv_at hl 4 rfl) ?_
    refine lv_iconst (v := 1) hx hb dX8_whatIn_108 rfl ?_
    refine lv_iload hx hb dX8_whatIn_109 (lv_at hl 5 rfl) ?_
    refine lv_ishl hx hb dX8_whatIn_111 ?_
    refine lv_ior hx hb dX8_whatIn_112 ?_
    refine lv_topi (fun v113 e113 => ?_)
    have h := lb_letI e113 h
    refine lv_istore (lv' := [(5, .int v113), (0, .ref (lb_ad G 0)), (1, .int x1), (2, .int x2), (4, .int x4), (6, .int x6)]) hx hb dX8_whatIn_113 hl (by decide) rfl (fun ls hl => ?_)
    refine lv_iinc (v := (x6 + 1)) (lv' := [(6, .int (x6 + 1)), (5, .int v113), (0, .ref (lb_ad G 0)), (1, .int x1), (2, .int x2), (4, .int x4)]) hx hb dX8_whatIn_115 hl (k := 5) rfl rfl (by decide) rfl (fun ls hl => ?_)
    refine lv_goto (tgt := 43) hx hb dX8_whatIn_118 (by decide) ?_
    exact hc43 x1 x2 x4 v113 (x6 + 1) q100.2 _ _ _ h hW (lv_sub hl [2, 3, 4, 5, 1, 0] rfl)
def f_X8_whatIn_43 : Nat → Int32 → Int32 → Int32 → Int32 → Int32 → lb_Mem → Option (Int32 × lb_Mem)
  | 0, _, _, _, _, _, _ => none
  | n + 1, x1, x2, x4, x5, x6, σ => if x4 ≤ x6 then some (x5, σ) else (f_X7_become 17 1 σ).bind (fun s58 => if x2 = 0 then lb_chk (lb_ix x1 8) (lb_let (lb_sto s58 27 x1.toNatClampNeg x6) (fun s75 : lb_Mem => f_X8_whatIn_90 (fun (x1 : Int32) (x2 : Int32) (x4 : Int32) (x5 : Int32) (x6 : Int32) (σ : lb_Mem) => f_X8_whatIn_43 n x1 x2 x4 x5 x6 σ) x1 x2 x4 x5 x6 s75)) else lb_chk (lb_ix x1 8) (lb_let (lb_sto s58 25 x1.toNatClampNeg x6) (fun s89 : lb_Mem => f_X8_whatIn_90 (fun (x1 : Int32) (x2 : Int32) (x4 : Int32) (x5 : Int32) (x6 : Int32) (σ : lb_Mem) => f_X8_whatIn_43 n x1 x2 x4 x5 x6 σ) x1 x2 x4 x5 x6 s89)))
set_option maxRecDepth 20000 in
set_option maxHeartbeats 4000000 in
theorem w_X8_whatIn_43 {p : Program} {l : Launch} {e : Env} {s : State} {m : MethodId} {args : Array Value} {below : List Frame} {meth : Method} {c : Code} {G : lb_G} {qr : (Int32 × lb_Mem)} (X : lb_C G p s m args meth c cX8_whatIn 7 RX8 (some .int)) : ∀ (n : Nat) (x1 : Int32) (x2 : Int32) (x4 : Int32) (x5 : Int32) (x6 : Int32) (σ : lb_Mem) (H : Heap) (locs : List Loc) (ls : Array Slot), f_X8_whatIn_43 n x1 x2 x4 x5 x6 σ = some qr → lb_W G s σ H locs → lv_has ls 7 [(0, .ref (lb_ad G 0)), (1, .int x1), (2, .int x2), (4, .int x4), (5, .int x5), (6, .int x6)] → W p l e rmX8_whatIn s m args below meth c H locs 0 0 (MQ below (lb_QI G qr.1 qr.2) args s 0 0 (lb_A G)) (F0 m 43 ls []) := by
  have hx := X.1
  have hb := X.2.1
  intro n
  induction n with
  | zero => intro x1 x2 x4 x5 x6 σ H locs ls h hW hl; exact absurd h (fun z => by cases z)
  | succ n ih =>
    intro x1 x2 x4 x5 x6 σ H locs ls h hW hl
    have h : (if x4 ≤ x6 then some (x5, σ) else (f_X7_become 17 1 σ).bind (fun s58 => if x2 = 0 then lb_chk (lb_ix x1 8) (lb_let (lb_sto s58 27 x1.toNatClampNeg x6) (fun s75 : lb_Mem => f_X8_whatIn_90 (fun (x1 : Int32) (x2 : Int32) (x4 : Int32) (x5 : Int32) (x6 : Int32) (σ : lb_Mem) => f_X8_whatIn_43 n x1 x2 x4 x5 x6 σ) x1 x2 x4 x5 x6 s75)) else lb_chk (lb_ix x1 8) (lb_let (lb_sto s58 25 x1.toNatClampNeg x6) (fun s89 : lb_Mem => f_X8_whatIn_90 (fun (x1 : Int32) (x2 : Int32) (x4 : Int32) (x5 : Int32) (x6 : Int32) (σ : lb_Mem) => f_X8_whatIn_43 n x1 x2 x4 x5 x6 σ) x1 x2 x4 x5 x6 s89)))) = some qr := h
    refine lv_iload hx hb dX8_whatIn_43 (lv_at hl 5 rfl) ?_
    refine lv_iload hx hb dX8_whatIn_45 (lv_at hl 3 rfl) ?_
    refine lv_icmp_ge (tgt := 121) hx hb dX8_whatIn_47 (by decide) (fun c47 => ?_) (fun c47 => ?_)
    · have h := (if_pos c47).symm.trans h
      refine lv_iload hx hb dX8_whatIn_121 (lv_at hl 4 rfl) ?_
      obtain rfl := Option.some.inj h
      exact lb_iret X hW dX8_whatIn_123
    · have h := (if_neg c47).symm.trans h
      refine lv_aload_n hx hb dX8_whatIn_50 rfl (lv_at hl 0 rfl) ?_
      refine rg_X8_16 X hW dX8_whatIn_51 ?_
      refine lv_aload_n hx hb dX8_whatIn_54 rfl (lv_at hl 0 rfl) ?_
      refine rg_X8_10 X hW dX8_whatIn_55 ?_
      obtain ⟨s58, e58, h⟩ := lb_bind h
      refine rc_X8_67 X hW lb_V17 lb_V1 e58 ⟨⟨rfl, rfl⟩, Nat.le_of_ble_eq_true rfl, Nat.le_of_ble_eq_true rfl⟩ hl.1 (Nat.le_of_ble_eq_true rfl) dX8_whatIn_58 ⟨Nat.zero_le _, Nat.zero_le _⟩ (fun H locs hW => ?_)
      refine lv_iload_n hx hb dX8_whatIn_61 rfl (lv_at hl 2 rfl) ?_
      refine lv_if_ne (tgt := 79) hx hb dX8_whatIn_62 (by decide) (fun c62 => ?_) (fun c62 => ?_)
      · have h := (if_neg c62).symm.trans h
        refine lv_aload_n hx hb dX8_whatIn_79 rfl (lv_at hl 0 rfl) ?_
        refine rg_X8_16 X hW dX8_whatIn_80 ?_
        refine rg_X8_89 (k := 25) X hW lb_V17 rfl dX8_whatIn_83 ?_
        refine lv_iload_n hx hb dX8_whatIn_86 rfl (lv_at hl 1 rfl) ?_
        refine lv_iload hx hb dX8_whatIn_87 (lv_at hl 5 rfl) ?_
        obtain ⟨i89, h⟩ := lb_chk_in h
        refine lb_ist X hW (show lb_ar 25 = 7 + 1 from rfl) i89 dX8_whatIn_89 (fun H locs hW => ?_)
        obtain ⟨s89, e89⟩ : ∃ z, z = lb_sto s58 25 x1.toNatClampNeg x6 := ⟨_, rfl⟩
        rw [← e89] at hW
        have h := lb_letI e89 h
        exact w_X8_whatIn_90 X ih x1 x2 x4 x5 x6 s89 _ _ _ h hW (lv_sub hl [0, 1, 2, 3, 4, 5] rfl)
      · have h := (if_pos c62).symm.trans h
        refine lv_aload_n hx hb dX8_whatIn_65 rfl (lv_at hl 0 rfl) ?_
        refine rg_X8_16 X hW dX8_whatIn_66 ?_
        refine rg_X8_95 (k := 27) X hW lb_V17 rfl dX8_whatIn_69 ?_
        refine lv_iload_n hx hb dX8_whatIn_72 rfl (lv_at hl 1 rfl) ?_
        refine lv_iload hx hb dX8_whatIn_73 (lv_at hl 5 rfl) ?_
        obtain ⟨i75, h⟩ := lb_chk_in h
        refine lb_ist X hW (show lb_ar 27 = 7 + 1 from rfl) i75 dX8_whatIn_75 (fun H locs hW => ?_)
        obtain ⟨s75, e75⟩ : ∃ z, z = lb_sto s58 27 x1.toNatClampNeg x6 := ⟨_, rfl⟩
        rw [← e75] at hW
        have h := lb_letI e75 h
        refine lv_goto (tgt := 90) hx hb dX8_whatIn_76 (by decide) ?_
        exact w_X8_whatIn_90 X ih x1 x2 x4 x5 x6 s75 _ _ _ h hW (lv_sub hl [0, 1, 2, 3, 4, 5] rfl)
def f_X8_whatIn (x1 : Int32) (x2 : Int32) (σ : lb_Mem) : Option (Int32 × lb_Mem) := lb_let ((f_X8_first (f_X8_potThere σ x1) (f_X8_known x2 (1 : Int32)))) (fun v13 : Int32 => if v13 = 0 then if x2 = 0 then f_X8_whatIn_43 lb_N x1 x2 (6 : Int32) (0 : Int32) (0 : Int32) σ else f_X8_whatIn_43 lb_N x1 x2 (6 : Int32) (0 : Int32) (0 : Int32) σ else (f_X8_refuse v13 σ).bind (fun q20 => some (q20.1, q20.2)))
set_option maxRecDepth 20000 in
set_option maxHeartbeats 4000000 in
theorem m_X8_whatIn (l : Launch) (G : lb_G) (σ : lb_Mem) (x1 : Int32) (x2 : Int32) (qr : (Int32 × lb_Mem)) (h : f_X8_whatIn x1 x2 σ = some qr) : lb_M l yX8_whatIn cX8_whatIn 7 (some .int) rmX8_whatIn [.ref (lb_ad G 0), .int x1, .int x2] G σ (lb_QI G qr.1 qr.2) := by
  refine lb_start RX8 (by decide +kernel) rfl (Nat.le_of_ble_eq_true rfl) (fun p e s m below meth c X hW ls hl => ?_)
  have hx := X.1
  have hb := X.2.1
  have hl : lv_has ls 7 [(0, .ref (lb_ad G 0)), (1, .int x1), (2, .int x2)] := hl
  have h : (lb_let ((f_X8_first (f_X8_potThere σ x1) (f_X8_known x2 (1 : Int32)))) (fun v13 : Int32 => if v13 = 0 then if x2 = 0 then f_X8_whatIn_43 lb_N x1 x2 (6 : Int32) (0 : Int32) (0 : Int32) σ else f_X8_whatIn_43 lb_N x1 x2 (6 : Int32) (0 : Int32) (0 : Int32) σ else (f_X8_refuse v13 σ).bind (fun q20 => some (q20.1, q20.2)))) = some qr := h
  skip
  refine lv_aload_n hx hb dX8_whatIn_0 rfl (lv_at hl 0 rfl) ?_
  refine lv_iload_n hx hb dX8_whatIn_1 rfl (lv_at hl 1 rfl) ?_
  refine rc_X8_83 X hW x1 ⟨⟨rfl, rfl⟩, Nat.le_of_ble_eq_true rfl, Nat.le_of_ble_eq_true rfl⟩ hl.1 (Nat.le_of_ble_eq_true rfl) dX8_whatIn_2 ⟨Nat.zero_le _, Nat.zero_le _⟩ (fun H locs hW => ?_)
  refine lv_iload_n hx hb dX8_whatIn_5 rfl (lv_at hl 2 rfl) ?_
  refine lv_iconst (v := 1) hx hb dX8_whatIn_6 rfl ?_
  refine rc_X8_86 X hW x2 (1 : Int32) ⟨⟨rfl, rfl⟩, Nat.le_of_ble_eq_true rfl, Nat.le_of_ble_eq_true rfl⟩ hl.1 (Nat.le_of_ble_eq_true rfl) dX8_whatIn_7 ⟨Nat.zero_le _, Nat.zero_le _⟩ (fun H locs hW => ?_)
  refine rc_X8_51 X hW (f_X8_potThere σ x1) (f_X8_known x2 (1 : Int32)) ⟨⟨rfl, rfl⟩, Nat.le_of_ble_eq_true rfl, Nat.le_of_ble_eq_true rfl⟩ hl.1 (Nat.le_of_ble_eq_true rfl) dX8_whatIn_10 ⟨Nat.zero_le _, Nat.zero_le _⟩ (fun H locs hW => ?_)
  refine lv_topi (fun v13 e13 => ?_)
  have h := lb_letI e13 h
  refine lv_istore_n (lv' := [(3, .int v13), (0, .ref (lb_ad G 0)), (1, .int x1), (2, .int x2)]) hx hb dX8_whatIn_13 rfl hl (by decide) rfl (fun ls hl => ?_)
  refine lv_iload_n hx hb dX8_whatIn_14 rfl (lv_at hl 0 rfl) ?_
  refine lv_if_eq (tgt := 24) hx hb dX8_whatIn_15 (by decide) (fun c15 => ?_) (fun c15 => ?_)
  · have h := (if_pos c15).symm.trans h
    refine lv_iload_n hx hb dX8_whatIn_24 rfl (lv_at hl 3 rfl) ?_
    refine lv_if_ne (tgt := 33) hx hb dX8_whatIn_25 (by decide) (fun c25 => ?_) (fun c25 => ?_)
    · have h := (if_neg c25).symm.trans h
      refine lv_bipush (v := 6) hx hb dX8_whatIn_33 rfl ?_
      refine lv_istore (lv' := [(4, .int (6 : Int32)), (3, .int v13), (0, .ref (lb_ad G 0)), (1, .int x1), (2, .int x2)]) hx hb dX8_whatIn_35 hl (by decide) rfl (fun ls hl => ?_)
      refine lv_iconst (v := 0) hx hb dX8_whatIn_37 rfl ?_
      refine lv_istore (lv' := [(5, .int (0 : Int32)), (4, .int (6 : Int32)), (3, .int v13), (0, .ref (lb_ad G 0)), (1, .int x1), (2, .int x2)]) hx hb dX8_whatIn_38 hl (by decide) rfl (fun ls hl => ?_)
      refine lv_iconst (v := 0) hx hb dX8_whatIn_40 rfl ?_
      refine lv_istore (lv' := [(6, .int (0 : Int32)), (5, .int (0 : Int32)), (4, .int (6 : Int32)), (3, .int v13), (0, .ref (lb_ad G 0)), (1, .int x1), (2, .int x2)]) hx hb dX8_whatIn_41 hl (by decide) rfl (fun ls hl => ?_)
      exact w_X8_whatIn_43 X lb_N x1 x2 (6 : Int32) (0 : Int32) (0 : Int32) σ _ _ _ h hW (lv_sub hl [4, 5, 6, 2, 1, 0] rfl)
    · have h := (if_pos c25).symm.trans h
      refine lv_bipush (v := 6) hx hb dX8_whatIn_28 rfl ?_
      refine lv_goto (tgt := 35) hx hb dX8_whatIn_30 (by decide) ?_
      refine lv_istore (lv' := [(4, .int (6 : Int32)), (3, .int v13), (0, .ref (lb_ad G 0)), (1, .int x1), (2, .int x2)]) hx hb dX8_whatIn_35 hl (by decide) rfl (fun ls hl => ?_)
      refine lv_iconst (v := 0) hx hb dX8_whatIn_37 rfl ?_
      refine lv_istore (lv' := [(5, .int (0 : Int32)), (4, .int (6 : Int32)), (3, .int v13), (0, .ref (lb_ad G 0)), (1, .int x1), (2, .int x2)]) hx hb dX8_whatIn_38 hl (by decide) rfl (fun ls hl => ?_)
      refine lv_iconst (v := 0) hx hb dX8_whatIn_40 rfl ?_
      refine lv_istore (lv' := [(6, .int (0 : Int32)), (5, .int (0 : Int32)), (4, .int (6 : Int32)), (3, .int v13), (0, .ref (lb_ad G 0)), (1, .int x1), (2, .int x2)]) hx hb dX8_whatIn_41 hl (by decide) rfl (fun ls hl => ?_)
      exact w_X8_whatIn_43 X lb_N x1 x2 (6 : Int32) (0 : Int32) (0 : Int32) σ _ _ _ h hW (lv_sub hl [4, 5, 6, 2, 1, 0] rfl)
  · have h := (if_neg c15).symm.trans h
    refine lv_aload_n hx hb dX8_whatIn_18 rfl (lv_at hl 1 rfl) ?_
    refine lv_iload_n hx hb dX8_whatIn_19 rfl (lv_at hl 0 rfl) ?_
    obtain ⟨q20, e20, h⟩ := lb_bind h
    refine rc_X8_55 X hW e20 ⟨⟨rfl, rfl⟩, Nat.le_of_ble_eq_true rfl, Nat.le_of_ble_eq_true rfl⟩ hl.1 (Nat.le_of_ble_eq_true rfl) dX8_whatIn_20 ⟨Nat.zero_le _, Nat.zero_le _⟩ (fun H locs hW => ?_)
    obtain rfl := Option.some.inj h
    exact lb_iret X hW dX8_whatIn_23
