theorem rc_X8_132 {p : Program} {l : Launch} {e : Env} {R : Room} {s : State} {m : MethodId} {args : Array Value} {below : List Frame} {meth : Method} {c : Code} {H : Heap} {locs : List Loc} {cells slots : Nat} {Q : State → Prop} {cc : ByteArray} {pc nL : Nat} {ls : Array Slot} {rest : List Value} {G : lb_G} {σ : lb_Mem} {ret : Option FieldType} (X : lb_C G p s m args meth c cc nL RX8 ret) (hW : lb_W G s σ H locs) (x0 : Int32) (hR : lb_room rmX7_isSort R 1) (hls : ls.size = nL) (hrest : (rest.map fun v => v.category).sum ≤ 8) (d : decode cc pc = .ok (.invokestatic 132, 3)) (hcap : cells ≤ R.cells ∧ slots ≤ R.slots) (kk : ∀ (H1 : Heap) (locs1 : List Loc), lb_W G s σ H1 locs1 → W p l e R s m args below meth c H1 locs1 cells slots Q (F0 m (pc + 3) ls (.int (f_X7_isSort x0) :: rest))) : W p l e R s m args below meth c H locs cells slots Q (F0 m pc ls (.int x0 :: rest)) :=
  lb_goI hW (lb_runS (As := [.int x0]) X hW (m_X7_isSort l G σ x0 _ rfl) (n := 1) ⟨qw_505, qw_44, qw_359, by decide +kernel⟩ hR qw_358 rfl hls hrest d hcap) kk
abbrev rmX8_likes : Room := { frames := 2, cells := 0, slots := 0, locals := 42 }
def f_X8_likes_17 (x1 : Int32) (x2 : Int32) (σ : lb_Mem) (y0 : Int32) (y1 : Int32) : Option (Int32 × lb_Mem) := lb_let ((f_X8_first y0 y1)) (fun v20 : Int32 => if v20 = 0 then lb_chk (lb_ix x1 5) (lb_let ((σ 15 x1.toNatClampNeg)) (fun v40 : Int32 => lb_chk (lb_ix x1 5) (lb_let (lb_sto σ 15 x1.toNatClampNeg x2) (fun s51 : lb_Mem => some (v40, s51))))) else (f_X8_refuse v20 σ).bind (fun q27 => some (q27.1, q27.2)))
set_option maxRecDepth 20000 in
set_option maxHeartbeats 4000000 in
theorem w_X8_likes_17 {p : Program} {l : Launch} {e : Env} {s : State} {m : MethodId} {args : Array Value} {below : List Frame} {meth : Method} {c : Code} {G : lb_G} {qr : (Int32 × lb_Mem)} (X : lb_C G p s m args meth c cX8_likes 5 RX8 (some .int)) : ∀ (x1 : Int32) (x2 : Int32) (σ : lb_Mem) (y0 : Int32) (y1 : Int32) (H : Heap) (locs : List Loc) (ls : Array Slot), f_X8_likes_17 x1 x2 σ y0 y1 = some qr → lb_W G s σ H locs → lv_has ls 5 [(0, .ref (lb_ad G 0)), (1, .int x1), (2, .int x2)] → W p l e rmX8_likes s m args below meth c H locs 0 0 (MQ below (lb_QI G qr.1 qr.2) args s 0 0 (lb_A G)) (F0 m 17 ls [.int y1, .int y0]) := by
  have hx := X.1
  have hb := X.2.1
  intro x1 x2 σ y0 y1 H locs ls h hW hl
  have h : (lb_let ((f_X8_first y0 y1)) (fun v20 : Int32 => if v20 = 0 then lb_chk (lb_ix x1 5) (lb_let ((σ 15 x1.toNatClampNeg)) (fun v40 : Int32 => lb_chk (lb_ix x1 5) (lb_let (lb_sto σ 15 x1.toNatClampNeg x2) (fun s51 : lb_Mem => some (v40, s51))))) else (f_X8_refuse v20 σ).bind (fun q27 => some (q27.1, q27.2)))) = some qr := h
  refine rc_X8_51 X hW y0 y1 ⟨⟨rfl, rfl⟩, Nat.le_of_ble_eq_true rfl, Nat.le_of_ble_eq_true rfl⟩ hl.1 (Nat.le_of_ble_eq_true rfl) dX8_likes_17 ⟨Nat.zero_le _, Nat.zero_le _⟩ (fun H locs hW => ?_)
  refine lv_topi (fun v20 e20 => ?_)
  have h := lb_letI e20 h
  refine lv_istore_n (lv' := [(3, .int v20), (0, .ref (lb_ad G 0)), (1, .int x1), (2, .int x2)]) hx hb dX8_likes_20 rfl hl (by decide) rfl (fun ls hl => ?_)
  refine lv_iload_n hx hb dX8_likes_21 rfl (lv_at hl 0 rfl) ?_
  refine lv_if_eq (tgt := 31) hx hb dX8_likes_22 (by decide) (fun c22 => ?_) (fun c22 => ?_)
  · have h := (if_pos c22).symm.trans h
    refine lv_aload_n hx hb dX8_likes_31 rfl (lv_at hl 1 rfl) ?_
    refine rg_X8_10 X hW dX8_likes_32 ?_
    refine rg_X8_110 (k := 15) X hW lb_V1 rfl dX8_likes_35 ?_
    refine lv_iload_n hx hb dX8_likes_38 rfl (lv_at hl 2 rfl) ?_
    obtain ⟨i39, h⟩ := lb_chk_in h
    refine lb_ild X hW (show lb_ar 15 = 4 + 1 from rfl) i39 dX8_likes_39 ?_
    refine lv_topi (fun v40 e40 => ?_)
    have h := lb_letI e40 h
    refine lv_istore (lv' := [(4, .int v40), (3, .int v20), (0, .ref (lb_ad G 0)), (1, .int x1), (2, .int x2)]) hx hb dX8_likes_40 hl (by decide) rfl (fun ls hl => ?_)
    refine lv_aload_n hx hb dX8_likes_42 rfl (lv_at hl 2 rfl) ?_
    refine rg_X8_10 X hW dX8_likes_43 ?_
    refine rg_X8_110 (k := 15) X hW lb_V1 rfl dX8_likes_46 ?_
    refine lv_iload_n hx hb dX8_likes_49 rfl (lv_at hl 3 rfl) ?_
    refine lv_iload_n hx hb dX8_likes_50 rfl (lv_at hl 4 rfl) ?_
    obtain ⟨i51, h⟩ := lb_chk_in h
    refine lb_ist X hW (show lb_ar 15 = 4 + 1 from rfl) i51 dX8_likes_51 (fun H locs hW => ?_)
    obtain ⟨s51, e51⟩ : ∃ z, z = lb_sto σ 15 x1.toNatClampNeg x2 := ⟨_, rfl⟩
    rw [← e51] at hW
    have h := lb_letI e51 h
    refine lv_iload hx hb dX8_likes_52 (lv_at hl 0 rfl) ?_
    obtain rfl := Option.some.inj h
    exact lb_iret X hW dX8_likes_54
  · have h := (if_neg c22).symm.trans h
    refine lv_aload_n hx hb dX8_likes_25 rfl (lv_at hl 1 rfl) ?_
    refine lv_iload_n hx hb dX8_likes_26 rfl (lv_at hl 0 rfl) ?_
    obtain ⟨q27, e27, h⟩ := lb_bind h
    refine rc_X8_55 X hW e27 ⟨⟨rfl, rfl⟩, Nat.le_of_ble_eq_true rfl, Nat.le_of_ble_eq_true rfl⟩ hl.1 (Nat.le_of_ble_eq_true rfl) dX8_likes_27 ⟨Nat.zero_le _, Nat.zero_le _⟩ (fun H locs hW => ?_)
    obtain rfl := Option.some.inj h
    exact lb_iret X hW dX8_likes_30
def f_X8_likes (x1 : Int32) (x2 : Int32) (σ : lb_Mem) : Option (Int32 × lb_Mem) := if (f_X7_isSort x2) = 0 then f_X8_likes_17 x1 x2 σ (f_X8_personThere σ x1) (-1 : Int32) else f_X8_likes_17 x1 x2 σ (f_X8_personThere σ x1) (0 : Int32)
set_option maxRecDepth 20000 in
set_option maxHeartbeats 4000000 in
theorem m_X8_likes (l : Launch) (G : lb_G) (σ : lb_Mem) (x1 : Int32) (x2 : Int32) (qr : (Int32 × lb_Mem)) (h : f_X8_likes x1 x2 σ = some qr) : lb_M l yX8_likes cX8_likes 5 (some .int) rmX8_likes [.ref (lb_ad G 0), .int x1, .int x2] G σ (lb_QI G qr.1 qr.2) := by
  refine lb_start RX8 (by decide +kernel) rfl (Nat.le_of_ble_eq_true rfl) (fun p e s m below meth c X hW ls hl => ?_)
  have hx := X.1
  have hb := X.2.1
  have hl : lv_has ls 5 [(0, .ref (lb_ad G 0)), (1, .int x1), (2, .int x2)] := hl
  have h : (if (f_X7_isSort x2) = 0 then f_X8_likes_17 x1 x2 σ (f_X8_personThere σ x1) (-1 : Int32) else f_X8_likes_17 x1 x2 σ (f_X8_personThere σ x1) (0 : Int32)) = some qr := h
  skip
  refine lv_aload_n hx hb dX8_likes_0 rfl (lv_at hl 0 rfl) ?_
  refine lv_iload_n hx hb dX8_likes_1 rfl (lv_at hl 1 rfl) ?_
  refine rc_X8_107 X hW x1 ⟨⟨rfl, rfl⟩, Nat.le_of_ble_eq_true rfl, Nat.le_of_ble_eq_true rfl⟩ hl.1 (Nat.le_of_ble_eq_true rfl) dX8_likes_2 ⟨Nat.zero_le _, Nat.zero_le _⟩ (fun H locs hW => ?_)
  refine lv_iload_n hx hb dX8_likes_5 rfl (lv_at hl 2 rfl) ?_
  refine rc_X8_132 X hW x2 ⟨⟨rfl, rfl⟩, Nat.le_of_ble_eq_true rfl, Nat.le_of_ble_eq_true rfl⟩ hl.1 (Nat.le_of_ble_eq_true rfl) dX8_likes_6 ⟨Nat.zero_le _, Nat.zero_le _⟩ (fun H locs hW => ?_)
  refine lv_if_eq (tgt := 16) hx hb dX8_likes_9 (by decide) (fun c9 => ?_) (fun c9 => ?_)
  · have h := (if_pos c9).symm.trans h
    refine lv_iconst (v := -1) hx hb dX8_likes_16 rfl ?_
    exact w_X8_likes_17 X x1 x2 σ (f_X8_personThere σ x1) (-1 : Int32) _ _ _ h hW (lv_sub hl [0, 1, 2] rfl)
  · have h := (if_neg c9).symm.trans h
    refine lv_iconst (v := 0) hx hb dX8_likes_12 rfl ?_
    refine lv_goto (tgt := 17) hx hb dX8_likes_13 (by decide) ?_
    exact w_X8_likes_17 X x1 x2 σ (f_X8_personThere σ x1) (0 : Int32) _ _ _ h hW (lv_sub hl [0, 1, 2] rfl)
abbrev rmX8_fills : Room := { frames := 2, cells := 0, slots := 0, locals := 42 }
def f_X8_fills (x1 : Int32) (x2 : Int32) (σ : lb_Mem) : Option (Int32 × lb_Mem) := lb_let ((f_X8_first (f_X8_potThere σ x1) (f_X8_within x2 (0 : Int32) (9 : Int32)))) (fun v15 : Int32 => if v15 = 0 then lb_chk (lb_ix x1 8) (lb_let ((σ 13 x1.toNatClampNeg)) (fun v35 : Int32 => lb_chk (lb_ix x1 8) (lb_let (lb_sto σ 13 x1.toNatClampNeg x2) (fun s46 : lb_Mem => some (v35, s46))))) else (f_X8_refuse v15 σ).bind (fun q22 => some (q22.1, q22.2)))
set_option maxRecDepth 20000 in
set_option maxHeartbeats 4000000 in
theorem m_X8_fills (l : Launch) (G : lb_G) (σ : lb_Mem) (x1 : Int32) (x2 : Int32) (qr : (Int32 × lb_Mem)) (h : f_X8_fills x1 x2 σ = some qr) : lb_M l yX8_fills cX8_fills 5 (some .int) rmX8_fills [.ref (lb_ad G 0), .int x1, .int x2] G σ (lb_QI G qr.1 qr.2) := by
  refine lb_start RX8 (by decide +kernel) rfl (Nat.le_of_ble_eq_true rfl) (fun p e s m below meth c X hW ls hl => ?_)
  have hx := X.1
  have hb := X.2.1
  have hl : lv_has ls 5 [(0, .ref (lb_ad G 0)), (1, .int x1), (2, .int x2)] := hl
  have h : (lb_let ((f_X8_first (f_X8_potThere σ x1) (f_X8_within x2 (0 : Int32) (9 : Int32)))) (fun v15 : Int32 => if v15 = 0 then lb_chk (lb_ix x1 8) (lb_let ((σ 13 x1.toNatClampNeg)) (fun v35 : Int32 => lb_chk (lb_ix x1 8) (lb_let (lb_sto σ 13 x1.toNatClampNeg x2) (fun s46 : lb_Mem => some (v35, s46))))) else (f_X8_refuse v15 σ).bind (fun q22 => some (q22.1, q22.2)))) = some qr := h
  skip
  refine lv_aload_n hx hb dX8_fills_0 rfl (lv_at hl 0 rfl) ?_
  refine lv_iload_n hx hb dX8_fills_1 rfl (lv_at hl 1 rfl) ?_
  refine rc_X8_83 X hW x1 ⟨⟨rfl, rfl⟩, Nat.le_of_ble_eq_true rfl, Nat.le_of_ble_eq_true rfl⟩ hl.1 (Nat.le_of_ble_eq_true rfl) dX8_fills_2 ⟨Nat.zero_le _, Nat.zero_le _⟩ (fun H locs hW => ?_)
  refine lv_iload_n hx hb dX8_fills_5 rfl (lv_at hl 2 rfl) ?_
  refine lv_iconst (v := 0) hx hb dX8_fills_6 rfl ?_
  refine lv_bipush (v := 9) hx hb dX8_fills_7 rfl ?_
  refine rc_X8_44 X hW x2 (0 : Int32) (9 : Int32) ⟨⟨rfl, rfl⟩, Nat.le_of_ble_eq_true rfl, Nat.le_of_ble_eq_true rfl⟩ hl.1 (Nat.le_of_ble_eq_true rfl) dX8_fills_9 ⟨Nat.zero_le _, Nat.zero_le _⟩ (fun H locs hW => ?_)
  refine rc_X8_51 X hW (f_X8_potThere σ x1) (f_X8_within x2 (0 : Int32) (9 : Int32)) ⟨⟨rfl, rfl⟩, Nat.le_of_ble_eq_true rfl, Nat.le_of_ble_eq_true rfl⟩ hl.1 (Nat.le_of_ble_eq_true rfl) dX8_fills_12 ⟨Nat.zero_le _, Nat.zero_le _⟩ (fun H locs hW => ?_)
  refine lv_topi (fun v15 e15 => ?_)
  have h := lb_letI e15 h
  refine lv_istore_n (lv' := [(3, .int v15), (0, .ref (lb_ad G 0)), (1, .int x1), (2, .int x2)]) hx hb dX8_fills_15 rfl hl (by decide) rfl (fun ls hl => ?_)
  refine lv_iload_n hx hb dX8_fills_16 rfl (lv_at hl 0 rfl) ?_
  refine lv_if_eq (tgt := 26) hx hb dX8_fills_17 (by decide) (fun c17 => ?_) (fun c17 => ?_)
  · have h := (if_pos c17).symm.trans h
    refine lv_aload_n hx hb dX8_fills_26 rfl (lv_at hl 1 rfl) ?_
    refine rg_X8_10 X hW dX8_fills_27 ?_
    refine rg_X8_101 (k := 13) X hW lb_V1 rfl dX8_fills_30 ?_
    refine lv_iload_n hx hb dX8_fills_33 rfl (lv_at hl 2 rfl) ?_
    obtain ⟨i34, h⟩ := lb_chk_in h
    refine lb_ild X hW (show lb_ar 13 = 7 + 1 from rfl) i34 dX8_fills_34 ?_
    refine lv_topi (fun v35 e35 => ?_)
    have h := lb_letI e35 h
    refine lv_istore (lv' := [(4, .int v35), (3, .int v15), (0, .ref (lb_ad G 0)), (1, .int x1), (2, .int x2)]) hx hb dX8_fills_35 hl (by decide) rfl (fun ls hl => ?_)
    refine lv_aload_n hx hb dX8_fills_37 rfl (lv_at hl 2 rfl) ?_
    refine rg_X8_10 X hW dX8_fills_38 ?_
    refine rg_X8_101 (k := 13) X hW lb_V1 rfl dX8_fills_41 ?_
    refine lv_iload_n hx hb dX8_fills_44 rfl (lv_at hl 3 rfl) ?_
    refine lv_iload_n hx hb dX8_fills_45 rfl (lv_at hl 4 rfl) ?_
    obtain ⟨i46, h⟩ := lb_chk_in h
    refine lb_ist X hW (show lb_ar 13 = 7 + 1 from rfl) i46 dX8_fills_46 (fun H locs hW => ?_)
    obtain ⟨s46, e46⟩ : ∃ z, z = lb_sto σ 13 x1.toNatClampNeg x2 := ⟨_, rfl⟩
    rw [← e46] at hW
    have h := lb_letI e46 h
    refine lv_iload hx hb dX8_fills_47 (lv_at hl 0 rfl) ?_
    obtain rfl := Option.some.inj h
    exact lb_iret X hW dX8_fills_49
  · have h := (if_neg c17).symm.trans h
    refine lv_aload_n hx hb dX8_fills_20 rfl (lv_at hl 1 rfl) ?_
    refine lv_iload_n hx hb dX8_fills_21 rfl (lv_at hl 0 rfl) ?_
    obtain ⟨q22, e22, h⟩ := lb_bind h
    refine rc_X8_55 X hW e22 ⟨⟨rfl, rfl⟩, Nat.le_of_ble_eq_true rfl, Nat.le_of_ble_eq_true rfl⟩ hl.1 (Nat.le_of_ble_eq_true rfl) dX8_fills_22 ⟨Nat.zero_le _, Nat.zero_le _⟩ (fun H locs hW => ?_)
    obtain rfl := Option.some.inj h
    exact lb_iret X hW dX8_fills_25
abbrev rmX8_first_ : Room := { frames := 1, cells := 0, slots := 0, locals := 21 }
def f_X8_first_ (x0 : Int32) (x1 : Int32) (x2 : Int32) : Int32 := (f_X8_first (f_X8_first x0 x1) x2)
set_option maxRecDepth 20000 in
set_option maxHeartbeats 4000000 in
theorem m_X8_first_ (l : Launch) (G : lb_G) (σ : lb_Mem) (x0 : Int32) (x1 : Int32) (x2 : Int32) (qr : Int32) (h : f_X8_first_ x0 x1 x2 = qr) : lb_M l yX8_first_ cX8_first_ 3 (some .int) rmX8_first_ [.int x0, .int x1, .int x2] G σ (lb_QI G qr σ) := by
  refine lb_start RX8 (by decide +kernel) rfl (Nat.le_of_ble_eq_true rfl) (fun p e s m below meth c X hW ls hl => ?_)
  have hx := X.1
  have hb := X.2.1
  have hl : lv_has ls 3 [(0, .int x0), (1, .int x1), (2, .int x2)] := hl
  have h : ((f_X8_first (f_X8_first x0 x1) x2)) = qr := h
  skip
  refine lv_iload_n hx hb dX8_first__0 rfl (lv_at hl 0 rfl) ?_
  refine lv_iload_n hx hb dX8_first__1 rfl (lv_at hl 1 rfl) ?_
  refine rc_X8_51 X hW x0 x1 ⟨⟨rfl, rfl⟩, Nat.le_of_ble_eq_true rfl, Nat.le_of_ble_eq_true rfl⟩ hl.1 (Nat.le_of_ble_eq_true rfl) dX8_first__2 ⟨Nat.zero_le _, Nat.zero_le _⟩ (fun H locs hW => ?_)
  refine lv_iload_n hx hb dX8_first__5 rfl (lv_at hl 2 rfl) ?_
  refine rc_X8_51 X hW (f_X8_first x0 x1) x2 ⟨⟨rfl, rfl⟩, Nat.le_of_ble_eq_true rfl, Nat.le_of_ble_eq_true rfl⟩ hl.1 (Nat.le_of_ble_eq_true rfl) dX8_first__6 ⟨Nat.zero_le _, Nat.zero_le _⟩ (fun H locs hW => ?_)
  subst h
  exact lb_iret X hW dX8_first__9
theorem rc_X8_135 {p : Program} {l : Launch} {e : Env} {R : Room} {s : State} {m : MethodId} {args : Array Value} {below : List Frame} {meth : Method} {c : Code} {H : Heap} {locs : List Loc} {cells slots : Nat} {Q : State → Prop} {cc : ByteArray} {pc nL : Nat} {ls : Array Slot} {rest : List Value} {G : lb_G} {σ : lb_Mem} {ret : Option FieldType} (X : lb_C G p s m args meth c cc nL RX8 ret) (hW : lb_W G s σ H locs) (x0 : Int32) (x1 : Int32) (x2 : Int32) (hR : lb_room rmX8_first_ R 3) (hls : ls.size = nL) (hrest : (rest.map fun v => v.category).sum ≤ 8) (d : decode cc pc = .ok (.invokestatic 135, 3)) (hcap : cells ≤ R.cells ∧ slots ≤ R.slots) (kk : ∀ (H1 : Heap) (locs1 : List Loc), lb_W G s σ H1 locs1 → W p l e R s m args below meth c H1 locs1 cells slots Q (F0 m (pc + 3) ls (.int (f_X8_first_ x0 x1 x2) :: rest))) : W p l e R s m args below meth c H locs cells slots Q (F0 m pc ls (.int x2 :: .int x1 :: .int x0 :: rest)) :=
  lb_goI hW (lb_runS (As := [.int x0, .int x1, .int x2]) X hW (m_X8_first_ l G σ x0 x1 x2 _ rfl) (n := 3) ⟨qw_514, qw_43, qw_516, by decide +kernel⟩ hR qw_515 rfl hls hrest d hcap) kk
abbrev rmX8_turn : Room := { frames := 2, cells := 0, slots := 0, locals := 43 }
def f_X8_turn (x1 : Int32) (x2 : Int32) (x3 : Int32) (σ : lb_Mem) : Option (Int32 × lb_Mem) := lb_let ((f_X8_first_ (f_X8_potThere σ x1) (f_X8_known x2 (5 : Int32)) (f_X8_within x3 (0 : Int32) (9 : Int32)))) (fun v20 : Int32 => if v20 = 0 then lb_chk (lb_ix x1 8) (lb_chk (lb_ix x1 8) (lb_let ((((10 : Int32) * (σ 9 x1.toNatClampNeg)) + (σ 10 x1.toNatClampNeg))) (fun v56 : Int32 => lb_chk (lb_ix x1 8) (lb_let (lb_sto σ 9 x1.toNatClampNeg x2) (fun s67 : lb_Mem => lb_chk (lb_ix x1 8) (lb_let (lb_sto s67 10 x1.toNatClampNeg x3) (fun s77 : lb_Mem => some (v56, s77)))))))) else (f_X8_refuse v20 σ).bind (fun q30 => some (q30.1, q30.2)))
set_option maxRecDepth 20000 in
set_option maxHeartbeats 4000000 in
theorem m_X8_turn (l : Launch) (G : lb_G) (σ : lb_Mem) (x1 : Int32) (x2 : Int32) (x3 : Int32) (qr : (Int32 × lb_Mem)) (h : f_X8_turn x1 x2 x3 σ = some qr) : lb_M l yX8_turn cX8_turn 6 (some .int) rmX8_turn [.ref (lb_ad G 0), .int x1, .int x2, .int x3] G σ (lb_QI G qr.1 qr.2) := by
  refine lb_start RX8 (by decide +kernel) rfl (Nat.le_of_ble_eq_true rfl) (fun p e s m below meth c X hW ls hl => ?_)
  have hx := X.1
  have hb := X.2.1
  have hl : lv_has ls 6 [(0, .ref (lb_ad G 0)), (1, .int x1), (2, .int x2), (3, .int x3)] := hl
  have h : (lb_let ((f_X8_first_ (f_X8_potThere σ x1) (f_X8_known x2 (5 : Int32)) (f_X8_within x3 (0 : Int32) (9 : Int32)))) (fun v20 : Int32 => if v20 = 0 then lb_chk (lb_ix x1 8) (lb_chk (lb_ix x1 8) (lb_let ((((10 : Int32) * (σ 9 x1.toNatClampNeg)) + (σ 10 x1.toNatClampNeg))) (fun v56 : Int32 => lb_chk (lb_ix x1 8) (lb_let (lb_sto σ 9 x1.toNatClampNeg x2) (fun s67 : lb_Mem => lb_chk (lb_ix x1 8) (lb_let (lb_sto s67 10 x1.toNatClampNeg x3) (fun s77 : lb_Mem => some (v56, s77)))))))) else (f_X8_refuse v20 σ).bind (fun q30 => some (q30.1, q30.2)))) = some qr := h
  skip
  refine lv_aload_n hx hb dX8_turn_0 rfl (lv_at hl 0 rfl) ?_
  refine lv_iload_n hx hb dX8_turn_1 rfl (lv_at hl 1 rfl) ?_
  refine rc_X8_83 X hW x1 ⟨⟨rfl, rfl⟩, Nat.le_of_ble_eq_true rfl, Nat.le_of_ble_eq_true rfl⟩ hl.1 (Nat.le_of_ble_eq_true rfl) dX8_turn_2 ⟨Nat.zero_le _, Nat.zero_le _⟩ (fun H locs hW => ?_)
  refine lv_iload_n hx hb dX8_turn_5 rfl (lv_at hl 2 rfl) ?_
  refine lv_iconst (v := 5) hx hb dX8_turn_6 rfl ?_
  refine rc_X8_86 X hW x2 (5 : Int32) ⟨⟨rfl, rfl⟩, Nat.le_of_ble_eq_true rfl, Nat.le_of_ble_eq_true rfl⟩ hl.1 (Nat.le_of_ble_eq_true rfl) dX8_turn_7 ⟨Nat.zero_le _, Nat.zero_le _⟩ (fun H locs hW => ?_)
  refine lv_iload_n hx hb dX8_turn_10 rfl (lv_at hl 3 rfl) ?_
  refine lv_iconst (v := 0) hx hb dX8_turn_11 rfl ?_
  refine lv_bipush (v := 9) hx hb dX8_turn_12 rfl ?_
  refine rc_X8_44 X hW x3 (0 : Int32) (9 : Int32) ⟨⟨rfl, rfl⟩, Nat.le_of_ble_eq_true rfl, Nat.le_of_ble_eq_true rfl⟩ hl.1 (Nat.le_of_ble_eq_true rfl) dX8_turn_14 ⟨Nat.zero_le _, Nat.zero_le _⟩ (fun H locs hW => ?_)
  refine rc_X8_135 X hW (f_X8_potThere σ x1) (f_X8_known x2 (5 : Int32)) (f_X8_within x3 (0 : Int32) (9 : Int32)) ⟨⟨rfl, rfl⟩, Nat.le_of_ble_eq_true rfl, Nat.le_of_ble_eq_true rfl⟩ hl.1 (Nat.le_of_ble_eq_true rfl) dX8_turn_17 ⟨Nat.zero_le _, Nat.zero_le _⟩ (fun H locs hW => ?_)
  refine lv_topi (fun v20 e20 => ?_)
  have h := lb_letI e20 h
  refine lv_istore (lv' := [(4, .int v20), (0, .ref (lb_ad G 0)), (1, .int x1), (2, .int x2), (3, .int x3)]) hx hb dX8_turn_20 hl (by decide) rfl (fun ls hl => ?_)
  refine lv_iload hx hb dX8_turn_22 (lv_at hl 0 rfl) ?_
  refine lv_if_eq (tgt := 34) hx hb dX8_turn_24 (by decide) (fun c24 => ?_) (fun c24 => ?_)
  · have h := (if_pos c24).symm.trans h
    refine lv_bipush (v := 10) hx hb dX8_turn_34 rfl ?_
    refine lv_aload_n hx hb dX8_turn_36 rfl (lv_at hl 1 rfl) ?_
    refine rg_X8_10 X hW dX8_turn_37 ?_
    refine rg_X8_89 (k := 9) X hW lb_V1 rfl dX8_turn_40 ?_
    refine lv_iload_n hx hb dX8_turn_43 rfl (lv_at hl 2 rfl) ?_
    obtain ⟨i44, h⟩ := lb_chk_in h
    refine lb_ild X hW (show lb_ar 9 = 7 + 1 from rfl) i44 dX8_turn_44 ?_
    refine lv_imul hx hb dX8_turn_45 ?_
    refine lv_aload_n hx hb dX8_turn_46 rfl (lv_at hl 1 rfl) ?_
    refine rg_X8_10 X hW dX8_turn_47 ?_
    refine rg_X8_92 (k := 10) X hW lb_V1 rfl dX8_turn_50 ?_
    refine lv_iload_n hx hb dX8_turn_53 rfl (lv_at hl 2 rfl) ?_
    obtain ⟨i54, h⟩ := lb_chk_in h
    refine lb_ild X hW (show lb_ar 10 = 7 + 1 from rfl) i54 dX8_turn_54 ?_
    refine lv_iadd hx hb dX8_turn_55 ?_
    refine lv_topi (fun v56 e56 => ?_)
    have h := lb_letI e56 h
    refine lv_istore (lv' := [(5, .int v56), (4, .int v20), (0, .ref (lb_ad G 0)), (1, .int x1), (2, .int x2), (3, .int x3)]) hx hb dX8_turn_56 hl (by decide) rfl (fun ls hl => ?_)
    refine lv_aload_n hx hb dX8_turn_58 rfl (lv_at hl 2 rfl) ?_
    refine rg_X8_10 X hW dX8_turn_59 ?_
    refine rg_X8_89 (k := 9) X hW lb_V1 rfl dX8_turn_62 ?_
    refine lv_iload_n hx hb dX8_turn_65 rfl (lv_at hl 3 rfl) ?_
    refine lv_iload_n hx hb dX8_turn_66 rfl (lv_at hl 4 rfl) ?_
    obtain ⟨i67, h⟩ := lb_chk_in h
    refine lb_ist X hW (show lb_ar 9 = 7 + 1 from rfl) i67 dX8_turn_67 (fun H locs hW => ?_)
    obtain ⟨s67, e67⟩ : ∃ z, z = lb_sto σ 9 x1.toNatClampNeg x2 := ⟨_, rfl⟩
    rw [← e67] at hW
    have h := lb_letI e67 h
    refine lv_aload_n hx hb dX8_turn_68 rfl (lv_at hl 2 rfl) ?_
    refine rg_X8_10 X hW dX8_turn_69 ?_
    refine rg_X8_92 (k := 10) X hW lb_V1 rfl dX8_turn_72 ?_
    refine lv_iload_n hx hb dX8_turn_75 rfl (lv_at hl 3 rfl) ?_
    refine lv_iload_n hx hb dX8_turn_76 rfl (lv_at hl 5 rfl) ?_
    obtain ⟨i77, h⟩ := lb_chk_in h
    refine lb_ist X hW (show lb_ar 10 = 7 + 1 from rfl) i77 dX8_turn_77 (fun H locs hW => ?_)
    obtain ⟨s77, e77⟩ : ∃ z, z = lb_sto s67 10 x1.toNatClampNeg x3 := ⟨_, rfl⟩
    rw [← e77] at hW
    have h := lb_letI e77 h
    refine lv_iload hx hb dX8_turn_78 (lv_at hl 0 rfl) ?_
    obtain rfl := Option.some.inj h
    exact lb_iret X hW dX8_turn_80
  · have h := (if_neg c24).symm.trans h
    refine lv_aload_n hx hb dX8_turn_27 rfl (lv_at hl 1 rfl) ?_
    refine lv_iload hx hb dX8_turn_28 (lv_at hl 0 rfl) ?_
    obtain ⟨q30, e30, h⟩ := lb_bind h
    refine rc_X8_55 X hW e30 ⟨⟨rfl, rfl⟩, Nat.le_of_ble_eq_true rfl, Nat.le_of_ble_eq_true rfl⟩ hl.1 (Nat.le_of_ble_eq_true rfl) dX8_turn_30 ⟨Nat.zero_le _, Nat.zero_le _⟩ (fun H locs hW => ?_)
    obtain rfl := Option.some.inj h
    exact lb_iret X hW dX8_turn_33
theorem rc_X8_140 {p : Program} {l : Launch} {e : Env} {R : Room} {s : State} {m : MethodId} {args : Array Value} {below : List Frame} {meth : Method} {c : Code} {H : Heap} {locs : List Loc} {cells slots : Nat} {Q : State → Prop} {cc : ByteArray} {pc nL : Nat} {ls : Array Slot} {rest : List Value} {G : lb_G} {σ : lb_Mem} {ret : Option FieldType} (X : lb_C G p s m args meth c cc nL RX8 ret) (hW : lb_W G s σ H locs) {b0 : Nat} (hb0 : lb_V b0) {x1 : Int32} {qr : lb_Mem} (h : f_X7_pass b0 x1 σ = some qr) (hR : lb_room rmX7_pass R 3) (hls : ls.size = nL) (hrest : (rest.map fun v => v.category).sum ≤ 8) (d : decode cc pc = .ok (.invokevirtual 140, 3)) (hcap : cells ≤ R.cells ∧ slots ≤ R.slots) (kk : ∀ (H1 : Heap) (locs1 : List Loc), lb_W G s qr H1 locs1 → W p l e R s m args below meth c H1 locs1 cells slots Q (F0 m (pc + 3) ls rest)) : W p l e R s m args below meth c H locs cells slots Q (F0 m pc ls (.int x1 :: .ref (lb_ad G b0) :: rest)) :=
  lb_goV hW (lb_runV (As := [.int x1]) X hW (m_X7_pass l G σ hb0 x1 qr h) (n := 1) ⟨qw_521, qw_44, qw_402, by decide +kernel⟩ hR qw_400 qw_401 (lb_isV hb0) rfl hls hrest d hcap) kk
theorem rc_X8_143 {p : Program} {l : Launch} {e : Env} {R : Room} {s : State} {m : MethodId} {args : Array Value} {below : List Frame} {meth : Method} {c : Code} {H : Heap} {locs : List Loc} {cells slots : Nat} {Q : State → Prop} {cc : ByteArray} {pc nL : Nat} {ls : Array Slot} {rest : List Value} {G : lb_G} {σ : lb_Mem} {ret : Option FieldType} (X : lb_C G p s m args meth c cc nL RX8 ret) (hW : lb_W G s σ H locs) {b0 : Nat} (hb0 : lb_V b0) {qr : Int32} (h : f_X7_allGrace σ b0 = some qr) (hR : lb_room rmX7_allGrace R 3) (hls : ls.size = nL) (hrest : (rest.map fun v => v.category).sum ≤ 8) (d : decode cc pc = .ok (.invokevirtual 143, 3)) (hcap : cells ≤ R.cells ∧ slots ≤ R.slots) (kk : ∀ (H1 : Heap) (locs1 : List Loc), lb_W G s σ H1 locs1 → W p l e R s m args below meth c H1 locs1 cells slots Q (F0 m (pc + 3) ls (.int qr :: rest))) : W p l e R s m args below meth c H locs cells slots Q (F0 m pc ls (.ref (lb_ad G b0) :: rest)) :=
  lb_goI hW (lb_runV (As := []) X hW (m_X7_allGrace l G σ hb0 qr h) (n := 0) ⟨qw_522, qw_44, qw_525, by decide +kernel⟩ hR qw_523 qw_524 (lb_isV hb0) rfl hls hrest d hcap) kk
abbrev rmX8_years : Room := { frames := 6, cells := 0, slots := 0, locals := 141 }
def f_X8_years_28 (x1 : Int32) (σ : lb_Mem) (y0 : Int32) (y1 : Int32) : Option (Int32 × lb_Mem) := lb_let ((f_X8_first y0 y1)) (fun v31 : Int32 => if v31 = 0 then (f_X7_pass 1 x1 σ).bind (fun s47 => (f_X7_allGrace s47 1).bind (fun q54 => some (q54, s47))) else (f_X8_refuse v31 σ).bind (fun q38 => some (q38.1, q38.2)))
set_option maxRecDepth 20000 in
set_option maxHeartbeats 4000000 in
theorem w_X8_years_28 {p : Program} {l : Launch} {e : Env} {s : State} {m : MethodId} {args : Array Value} {below : List Frame} {meth : Method} {c : Code} {G : lb_G} {qr : (Int32 × lb_Mem)} (X : lb_C G p s m args meth c cX8_years 3 RX8 (some .int)) : ∀ (x1 : Int32) (σ : lb_Mem) (y0 : Int32) (y1 : Int32) (H : Heap) (locs : List Loc) (ls : Array Slot), f_X8_years_28 x1 σ y0 y1 = some qr → lb_W G s σ H locs → lv_has ls 3 [(0, .ref (lb_ad G 0)), (1, .int x1)] → W p l e rmX8_years s m args below meth c H locs 0 0 (MQ below (lb_QI G qr.1 qr.2) args s 0 0 (lb_A G)) (F0 m 28 ls [.int y1, .int y0]) := by
  have hx := X.1
  have hb := X.2.1
  intro x1 σ y0 y1 H locs ls h hW hl
  have h : (lb_let ((f_X8_first y0 y1)) (fun v31 : Int32 => if v31 = 0 then (f_X7_pass 1 x1 σ).bind (fun s47 => (f_X7_allGrace s47 1).bind (fun q54 => some (q54, s47))) else (f_X8_refuse v31 σ).bind (fun q38 => some (q38.1, q38.2)))) = some qr := h
  refine rc_X8_51 X hW y0 y1 ⟨⟨rfl, rfl⟩, Nat.le_of_ble_eq_true rfl, Nat.le_of_ble_eq_true rfl⟩ hl.1 (Nat.le_of_ble_eq_true rfl) dX8_years_28 ⟨Nat.zero_le _, Nat.zero_le _⟩ (fun H locs hW => ?_)
  refine lv_topi (fun v31 e31 => ?_)
  have h := lb_letI e31 h
  refine lv_istore_n (lv' := [(2, .int v31), (0, .ref (lb_ad G 0)), (1, .int x1)]) hx hb dX8_years_31 rfl hl (by decide) rfl (fun ls hl => ?_)
  refine lv_iload_n hx hb dX8_years_32 rfl (lv_at hl 0 rfl) ?_
  refine lv_if_eq (tgt := 42) hx hb dX8_years_33 (by decide) (fun c33 => ?_) (fun c33 => ?_)
  · have h := (if_pos c33).symm.trans h
    refine lv_aload_n hx hb dX8_years_42 rfl (lv_at hl 1 rfl) ?_
    refine rg_X8_10 X hW dX8_years_43 ?_
    refine lv_iload_n hx hb dX8_years_46 rfl (lv_at hl 2 rfl) ?_
    obtain ⟨s47, e47, h⟩ := lb_bind h
    refine rc_X8_140 X hW lb_V1 e47 ⟨⟨rfl, rfl⟩, Nat.le_of_ble_eq_true rfl, Nat.le_of_ble_eq_true rfl⟩ hl.1 (Nat.le_of_ble_eq_true rfl) dX8_years_47 ⟨Nat.zero_le _, Nat.zero_le _⟩ (fun H locs hW => ?_)
    refine lv_aload_n hx hb dX8_years_50 rfl (lv_at hl 1 rfl) ?_
    refine rg_X8_10 X hW dX8_years_51 ?_
    obtain ⟨q54, e54, h⟩ := lb_bind h
    refine rc_X8_143 X hW lb_V1 e54 ⟨⟨rfl, rfl⟩, Nat.le_of_ble_eq_true rfl, Nat.le_of_ble_eq_true rfl⟩ hl.1 (Nat.le_of_ble_eq_true rfl) dX8_years_54 ⟨Nat.zero_le _, Nat.zero_le _⟩ (fun H locs hW => ?_)
    obtain rfl := Option.some.inj h
    exact lb_iret X hW dX8_years_57
  · have h := (if_neg c33).symm.trans h
    refine lv_aload_n hx hb dX8_years_36 rfl (lv_at hl 1 rfl) ?_
    refine lv_iload_n hx hb dX8_years_37 rfl (lv_at hl 0 rfl) ?_
    obtain ⟨q38, e38, h⟩ := lb_bind h
    refine rc_X8_55 X hW e38 ⟨⟨rfl, rfl⟩, Nat.le_of_ble_eq_true rfl, Nat.le_of_ble_eq_true rfl⟩ hl.1 (Nat.le_of_ble_eq_true rfl) dX8_years_38 ⟨Nat.zero_le _, Nat.zero_le _⟩ (fun H locs hW => ?_)
    obtain rfl := Option.some.inj h
    exact lb_iret X hW dX8_years_41
def f_X8_years (x1 : Int32) (σ : lb_Mem) : Option (Int32 × lb_Mem) := if ((999 : Int32) - x1) < (σ 1 11) then f_X8_years_28 x1 σ (f_X8_within x1 (1 : Int32) (60 : Int32)) (-6 : Int32) else f_X8_years_28 x1 σ (f_X8_within x1 (1 : Int32) (60 : Int32)) (0 : Int32)
set_option maxRecDepth 20000 in
set_option maxHeartbeats 4000000 in
theorem m_X8_years (l : Launch) (G : lb_G) (σ : lb_Mem) (x1 : Int32) (qr : (Int32 × lb_Mem)) (h : f_X8_years x1 σ = some qr) : lb_M l yX8_years cX8_years 3 (some .int) rmX8_years [.ref (lb_ad G 0), .int x1] G σ (lb_QI G qr.1 qr.2) := by
  refine lb_start RX8 (by decide +kernel) rfl (Nat.le_of_ble_eq_true rfl) (fun p e s m below meth c X hW ls hl => ?_)
  have hx := X.1
  have hb := X.2.1
  have hl : lv_has ls 3 [(0, .ref (lb_ad G 0)), (1, .int x1)] := hl
  have h : (if ((999 : Int32) - x1) < (σ 1 11) then f_X8_years_28 x1 σ (f_X8_within x1 (1 : Int32) (60 : Int32)) (-6 : Int32) else f_X8_years_28 x1 σ (f_X8_within x1 (1 : Int32) (60 : Int32)) (0 : Int32)) = some qr := h
  skip
  refine lv_iload_n hx hb dX8_years_0 rfl (lv_at hl 1 rfl) ?_
  refine lv_iconst (v := 1) hx hb dX8_years_1 rfl ?_
  refine lv_bipush (v := 60) hx hb dX8_years_2 rfl ?_
  refine rc_X8_44 X hW x1 (1 : Int32) (60 : Int32) ⟨⟨rfl, rfl⟩, Nat.le_of_ble_eq_true rfl, Nat.le_of_ble_eq_true rfl⟩ hl.1 (Nat.le_of_ble_eq_true rfl) dX8_years_4 ⟨Nat.zero_le _, Nat.zero_le _⟩ (fun H locs hW => ?_)
  refine lv_aload_n hx hb dX8_years_7 rfl (lv_at hl 0 rfl) ?_
  refine rg_X8_10 X hW dX8_years_8 ?_
  refine rg_X8_137 X hW lb_V1 dX8_years_11 ?_
  refine lv_sipush (v := 999) hx hb dX8_years_14 rfl ?_
  refine lv_iload_n hx hb dX8_years_17 rfl (lv_at hl 1 rfl) ?_
  refine lv_isub hx hb dX8_years_18 ?_
  refine lv_icmp_gt (tgt := 26) hx hb dX8_years_19 (by decide) (fun c19 => ?_) (fun c19 => ?_)
  · have h := (if_pos c19).symm.trans h
    refine lv_bipush (v := -6) hx hb dX8_years_26 rfl ?_
    exact w_X8_years_28 X x1 σ (f_X8_within x1 (1 : Int32) (60 : Int32)) (-6 : Int32) _ _ _ h hW (lv_sub hl [0, 1] rfl)
  · have h := (if_neg c19).symm.trans h
    refine lv_iconst (v := 0) hx hb dX8_years_22 rfl ?_
    refine lv_goto (tgt := 28) hx hb dX8_years_23 (by decide) ?_
    exact w_X8_years_28 X x1 σ (f_X8_within x1 (1 : Int32) (60 : Int32)) (0 : Int32) _ _ _ h hW (lv_sub hl [0, 1] rfl)
theorem rc_X8_146 {p : Program} {l : Launch} {e : Env} {R : Room} {s : State} {m : MethodId} {args : Array Value} {below : List Frame} {meth : Method} {c : Code} {H : Heap} {locs : List Loc} {cells slots : Nat} {Q : State → Prop} {cc : ByteArray} {pc nL : Nat} {ls : Array Slot} {rest : List Value} {G : lb_G} {σ : lb_Mem} {ret : Option FieldType} (X : lb_C G p s m args meth c cc nL RX8 ret) (hW : lb_W G s σ H locs) {b0 : Nat} (hb0 : lb_V b0) {x1 : Int32} {x2 : Int32} {qr : lb_Mem} (h : f_X7_passFor b0 x1 x2 σ = some qr) (hR : lb_room rmX7_passFor R 6) (hls : ls.size = nL) (hrest : (rest.map fun v => v.category).sum ≤ 8) (d : decode cc pc = .ok (.invokevirtual 146, 3)) (hcap : cells ≤ R.cells ∧ slots ≤ R.slots) (kk : ∀ (H1 : Heap) (locs1 : List Loc), lb_W G s qr H1 locs1 → W p l e R s m args below meth c H1 locs1 cells slots Q (F0 m (pc + 3) ls rest)) : W p l e R s m args below meth c H locs cells slots Q (F0 m pc ls (.int x2 :: .int x1 :: .ref (lb_ad G b0) :: rest)) :=
  lb_goV hW (lb_runV (As := [.int x1, .int x2]) X hW (m_X7_passFor l G σ hb0 x1 x2 qr h) (n := 2) ⟨qw_530, qw_44, qw_406, by decide +kernel⟩ hR qw_404 qw_405 (lb_isV hb0) rfl hls hrest d hcap) kk
abbrev rmX8_personThen : Room := { frames := 5, cells := 0, slots := 0, locals := 119 }
def f_X8_personThen (x1 : Int32) (x2 : Int32) (x3 : Int32) (σ : lb_Mem) : Option (Int32 × lb_Mem) := lb_let ((f_X8_first_ (f_X8_personThere σ x1) (f_X8_within x2 (0 : Int32) (60 : Int32)) (f_X8_known x3 (1 : Int32)))) (fun v20 : Int32 => if v20 = 0 then (f_X7_become 17 1 σ).bind (fun s42 => (f_X7_passFor 17 x1 x2 s42).bind (fun s51 => if x3 = 0 then lb_chk (lb_ix x1 5) (some ((s51 32 x1.toNatClampNeg), s51)) else (f_X7_opened s51 17 x1).bind (fun q75 => some (q75, s51)))) else (f_X8_refuse v20 σ).bind (fun q30 => some (q30.1, q30.2)))
set_option maxRecDepth 20000 in
set_option maxHeartbeats 4000000 in
theorem m_X8_personThen (l : Launch) (G : lb_G) (σ : lb_Mem) (x1 : Int32) (x2 : Int32) (x3 : Int32) (qr : (Int32 × lb_Mem)) (h : f_X8_personThen x1 x2 x3 σ = some qr) : lb_M l yX8_personThen cX8_personThen 5 (some .int) rmX8_personThen [.ref (lb_ad G 0), .int x1, .int x2, .int x3] G σ (lb_QI G qr.1 qr.2) := by
  refine lb_start RX8 (by decide +kernel) rfl (Nat.le_of_ble_eq_true rfl) (fun p e s m below meth c X hW ls hl => ?_)
  have hx := X.1
  have hb := X.2.1
  have hl : lv_has ls 5 [(0, .ref (lb_ad G 0)), (1, .int x1), (2, .int x2), (3, .int x3)] := hl
  have h : (lb_let ((f_X8_first_ (f_X8_personThere σ x1) (f_X8_within x2 (0 : Int32) (60 : Int32)) (f_X8_known x3 (1 : Int32)))) (fun v20 : Int32 => if v20 = 0 then (f_X7_become 17 1 σ).bind (fun s42 => (f_X7_passFor 17 x1 x2 s42).bind (fun s51 => if x3 = 0 then lb_chk (lb_ix x1 5) (some ((s51 32 x1.toNatClampNeg), s51)) else (f_X7_opened s51 17 x1).bind (fun q75 => some (q75, s51)))) else (f_X8_refuse v20 σ).bind (fun q30 => some (q30.1, q30.2)))) = some qr := h
  skip
  refine lv_aload_n hx hb dX8_personThen_0 rfl (lv_at hl 0 rfl) ?_
  refine lv_iload_n hx hb dX8_personThen_1 rfl (lv_at hl 1 rfl) ?_
  refine rc_X8_107 X hW x1 ⟨⟨rfl, rfl⟩, Nat.le_of_ble_eq_true rfl, Nat.le_of_ble_eq_true rfl⟩ hl.1 (Nat.le_of_ble_eq_true rfl) dX8_personThen_2 ⟨Nat.zero_le _, Nat.zero_le _⟩ (fun H locs hW => ?_)
  refine lv_iload_n hx hb dX8_personThen_5 rfl (lv_at hl 2 rfl) ?_
  refine lv_iconst (v := 0) hx hb dX8_personThen_6 rfl ?_
  refine lv_bipush (v := 60) hx hb dX8_personThen_7 rfl ?_
  refine rc_X8_44 X hW x2 (0 : Int32) (60 : Int32) ⟨⟨rfl, rfl⟩, Nat.le_of_ble_eq_true rfl, Nat.le_of_ble_eq_true rfl⟩ hl.1 (Nat.le_of_ble_eq_true rfl) dX8_personThen_9 ⟨Nat.zero_le _, Nat.zero_le _⟩ (fun H locs hW => ?_)
  refine lv_iload_n hx hb dX8_personThen_12 rfl (lv_at hl 3 rfl) ?_
  refine lv_iconst (v := 1) hx hb dX8_personThen_13 rfl ?_
  refine rc_X8_86 X hW x3 (1 : Int32) ⟨⟨rfl, rfl⟩, Nat.le_of_ble_eq_true rfl, Nat.le_of_ble_eq_true rfl⟩ hl.1 (Nat.le_of_ble_eq_true rfl) dX8_personThen_14 ⟨Nat.zero_le _, Nat.zero_le _⟩ (fun H locs hW => ?_)
  refine rc_X8_135 X hW (f_X8_personThere σ x1) (f_X8_within x2 (0 : Int32) (60 : Int32)) (f_X8_known x3 (1 : Int32)) ⟨⟨rfl, rfl⟩, Nat.le_of_ble_eq_true rfl, Nat.le_of_ble_eq_true rfl⟩ hl.1 (Nat.le_of_ble_eq_true rfl) dX8_personThen_17 ⟨Nat.zero_le _, Nat.zero_le _⟩ (fun H locs hW => ?_)
  refine lv_topi (fun v20 e20 => ?_)
  have h := lb_letI e20 h
  refine lv_istore (lv' := [(4, .int v20), (0, .ref (lb_ad G 0)), (1, .int x1), (2, .int x2), (3, .int x3)]) hx hb dX8_personThen_20 hl (by decide) rfl (fun ls hl => ?_)
  refine lv_iload hx hb dX8_personThen_22 (lv_at hl 0 rfl) ?_
  refine lv_if_eq (tgt := 34) hx hb dX8_personThen_24 (by decide) (fun c24 => ?_) (fun c24 => ?_)
  · have h := (if_pos c24).symm.trans h
    refine lv_aload_n hx hb dX8_personThen_34 rfl (lv_at hl 1 rfl) ?_
    refine rg_X8_16 X hW dX8_personThen_35 ?_
    refine lv_aload_n hx hb dX8_personThen_38 rfl (lv_at hl 1 rfl) ?_
    refine rg_X8_10 X hW dX8_personThen_39 ?_
    obtain ⟨s42, e42, h⟩ := lb_bind h
    refine rc_X8_67 X hW lb_V17 lb_V1 e42 ⟨⟨rfl, rfl⟩, Nat.le_of_ble_eq_true rfl, Nat.le_of_ble_eq_true rfl⟩ hl.1 (Nat.le_of_ble_eq_true rfl) dX8_personThen_42 ⟨Nat.zero_le _, Nat.zero_le _⟩ (fun H locs hW => ?_)
    refine lv_aload_n hx hb dX8_personThen_45 rfl (lv_at hl 1 rfl) ?_
    refine rg_X8_16 X hW dX8_personThen_46 ?_
    refine lv_iload_n hx hb dX8_personThen_49 rfl (lv_at hl 2 rfl) ?_
    refine lv_iload_n hx hb dX8_personThen_50 rfl (lv_at hl 3 rfl) ?_
    obtain ⟨s51, e51, h⟩ := lb_bind h
    refine rc_X8_146 X hW lb_V17 e51 ⟨⟨rfl, rfl⟩, Nat.le_of_ble_eq_true rfl, Nat.le_of_ble_eq_true rfl⟩ hl.1 (Nat.le_of_ble_eq_true rfl) dX8_personThen_51 ⟨Nat.zero_le _, Nat.zero_le _⟩ (fun H locs hW => ?_)
    refine lv_iload_n hx hb dX8_personThen_54 rfl (lv_at hl 4 rfl) ?_
    refine lv_if_ne (tgt := 70) hx hb dX8_personThen_55 (by decide) (fun c55 => ?_) (fun c55 => ?_)
    · have h := (if_neg c55).symm.trans h
      refine lv_aload_n hx hb dX8_personThen_70 rfl (lv_at hl 1 rfl) ?_
      refine rg_X8_16 X hW dX8_personThen_71 ?_
      refine lv_iload_n hx hb dX8_personThen_74 rfl (lv_at hl 2 rfl) ?_
      obtain ⟨q75, e75, h⟩ := lb_bind h
      refine rc_X8_116 X hW lb_V17 e75 ⟨⟨rfl, rfl⟩, Nat.le_of_ble_eq_true rfl, Nat.le_of_ble_eq_true rfl⟩ hl.1 (Nat.le_of_ble_eq_true rfl) dX8_personThen_75 ⟨Nat.zero_le _, Nat.zero_le _⟩ (fun H locs hW => ?_)
      obtain rfl := Option.some.inj h
      exact lb_iret X hW dX8_personThen_78
    · have h := (if_pos c55).symm.trans h
      refine lv_aload_n hx hb dX8_personThen_58 rfl (lv_at hl 1 rfl) ?_
      refine rg_X8_16 X hW dX8_personThen_59 ?_
      refine rg_X8_113 (k := 32) X hW lb_V17 rfl dX8_personThen_62 ?_
      refine lv_iload_n hx hb dX8_personThen_65 rfl (lv_at hl 2 rfl) ?_
      obtain ⟨i66, h⟩ := lb_chk_in h
      refine lb_ild X hW (show lb_ar 32 = 4 + 1 from rfl) i66 dX8_personThen_66 ?_
      refine lv_goto (tgt := 78) hx hb dX8_personThen_67 (by decide) ?_
      obtain rfl := Option.some.inj h
      exact lb_iret X hW dX8_personThen_78
  · have h := (if_neg c24).symm.trans h
    refine lv_aload_n hx hb dX8_personThen_27 rfl (lv_at hl 1 rfl) ?_
    refine lv_iload hx hb dX8_personThen_28 (lv_at hl 0 rfl) ?_
    obtain ⟨q30, e30, h⟩ := lb_bind h
    refine rc_X8_55 X hW e30 ⟨⟨rfl, rfl⟩, Nat.le_of_ble_eq_true rfl, Nat.le_of_ble_eq_true rfl⟩ hl.1 (Nat.le_of_ble_eq_true rfl) dX8_personThen_30 ⟨Nat.zero_le _, Nat.zero_le _⟩ (fun H locs hW => ?_)
    obtain rfl := Option.some.inj h
    exact lb_iret X hW dX8_personThen_33
abbrev rmX8_fullThen : Room := { frames := 5, cells := 0, slots := 0, locals := 119 }
def f_X8_fullThen (x1 : Int32) (x2 : Int32) (σ : lb_Mem) : Option (Int32 × lb_Mem) := lb_let ((f_X8_first (f_X8_potThere σ x1) (f_X8_within x2 (0 : Int32) (60 : Int32)))) (fun v15 : Int32 => if v15 = 0 then (f_X7_become 17 1 σ).bind (fun s34 => lb_chk (lb_ix x1 8) ((f_X7_passFor 17 (s34 30 x1.toNatClampNeg) x2 s34).bind (fun s51 => lb_chk (lb_ix x1 8) (some ((s51 29 x1.toNatClampNeg), s51))))) else (f_X8_refuse v15 σ).bind (fun q22 => some (q22.1, q22.2)))
set_option maxRecDepth 20000 in
set_option maxHeartbeats 4000000 in
theorem m_X8_fullThen (l : Launch) (G : lb_G) (σ : lb_Mem) (x1 : Int32) (x2 : Int32) (qr : (Int32 × lb_Mem)) (h : f_X8_fullThen x1 x2 σ = some qr) : lb_M l yX8_fullThen cX8_fullThen 4 (some .int) rmX8_fullThen [.ref (lb_ad G 0), .int x1, .int x2] G σ (lb_QI G qr.1 qr.2) := by
  refine lb_start RX8 (by decide +kernel) rfl (Nat.le_of_ble_eq_true rfl) (fun p e s m below meth c X hW ls hl => ?_)
  have hx := X.1
  have hb := X.2.1
  have hl : lv_has ls 4 [(0, .ref (lb_ad G 0)), (1, .int x1), (2, .int x2)] := hl
  have h : (lb_let ((f_X8_first (f_X8_potThere σ x1) (f_X8_within x2 (0 : Int32) (60 : Int32)))) (fun v15 : Int32 => if v15 = 0 then (f_X7_become 17 1 σ).bind (fun s34 => lb_chk (lb_ix x1 8) ((f_X7_passFor 17 (s34 30 x1.toNatClampNeg) x2 s34).bind (fun s51 => lb_chk (lb_ix x1 8) (some ((s51 29 x1.toNatClampNeg), s51))))) else (f_X8_refuse v15 σ).bind (fun q22 => some (q22.1, q22.2)))) = some qr := h
  skip
  refine lv_aload_n hx hb dX8_fullThen_0 rfl (lv_at hl 0 rfl) ?_
  refine lv_iload_n hx hb dX8_fullThen_1 rfl (lv_at hl 1 rfl) ?_
  refine rc_X8_83 X hW x1 ⟨⟨rfl, rfl⟩, Nat.le_of_ble_eq_true rfl, Nat.le_of_ble_eq_true rfl⟩ hl.1 (Nat.le_of_ble_eq_true rfl) dX8_fullThen_2 ⟨Nat.zero_le _, Nat.zero_le _⟩ (fun H locs hW => ?_)
  refine lv_iload_n hx hb dX8_fullThen_5 rfl (lv_at hl 2 rfl) ?_
  refine lv_iconst (v := 0) hx hb dX8_fullThen_6 rfl ?_
  refine lv_bipush (v := 60) hx hb dX8_fullThen_7 rfl ?_
  refine rc_X8_44 X hW x2 (0 : Int32) (60 : Int32) ⟨⟨rfl, rfl⟩, Nat.le_of_ble_eq_true rfl, Nat.le_of_ble_eq_true rfl⟩ hl.1 (Nat.le_of_ble_eq_true rfl) dX8_fullThen_9 ⟨Nat.zero_le _, Nat.zero_le _⟩ (fun H locs hW => ?_)
  refine rc_X8_51 X hW (f_X8_potThere σ x1) (f_X8_within x2 (0 : Int32) (60 : Int32)) ⟨⟨rfl, rfl⟩, Nat.le_of_ble_eq_true rfl, Nat.le_of_ble_eq_true rfl⟩ hl.1 (Nat.le_of_ble_eq_true rfl) dX8_fullThen_12 ⟨Nat.zero_le _, Nat.zero_le _⟩ (fun H locs hW => ?_)
  refine lv_topi (fun v15 e15 => ?_)
  have h := lb_letI e15 h
  refine lv_istore_n (lv' := [(3, .int v15), (0, .ref (lb_ad G 0)), (1, .int x1), (2, .int x2)]) hx hb dX8_fullThen_15 rfl hl (by decide) rfl (fun ls hl => ?_)
  refine lv_iload_n hx hb dX8_fullThen_16 rfl (lv_at hl 0 rfl) ?_
  refine lv_if_eq (tgt := 26) hx hb dX8_fullThen_17 (by decide) (fun c17 => ?_) (fun c17 => ?_)
  · have h := (if_pos c17).symm.trans h
    refine lv_aload_n hx hb dX8_fullThen_26 rfl (lv_at hl 1 rfl) ?_
    refine rg_X8_16 X hW dX8_fullThen_27 ?_
    refine lv_aload_n hx hb dX8_fullThen_30 rfl (lv_at hl 1 rfl) ?_
    refine rg_X8_10 X hW dX8_fullThen_31 ?_
    obtain ⟨s34, e34, h⟩ := lb_bind h
    refine rc_X8_67 X hW lb_V17 lb_V1 e34 ⟨⟨rfl, rfl⟩, Nat.le_of_ble_eq_true rfl, Nat.le_of_ble_eq_true rfl⟩ hl.1 (Nat.le_of_ble_eq_true rfl) dX8_fullThen_34 ⟨Nat.zero_le _, Nat.zero_le _⟩ (fun H locs hW => ?_)
    refine lv_aload_n hx hb dX8_fullThen_37 rfl (lv_at hl 1 rfl) ?_
    refine rg_X8_16 X hW dX8_fullThen_38 ?_
    refine lv_aload_n hx hb dX8_fullThen_41 rfl (lv_at hl 1 rfl) ?_
    refine rg_X8_16 X hW dX8_fullThen_42 ?_
    refine rg_X8_104 (k := 30) X hW lb_V17 rfl dX8_fullThen_45 ?_
    refine lv_iload_n hx hb dX8_fullThen_48 rfl (lv_at hl 2 rfl) ?_
    obtain ⟨i49, h⟩ := lb_chk_in h
    refine lb_ild X hW (show lb_ar 30 = 7 + 1 from rfl) i49 dX8_fullThen_49 ?_
    refine lv_iload_n hx hb dX8_fullThen_50 rfl (lv_at hl 3 rfl) ?_
    obtain ⟨s51, e51, h⟩ := lb_bind h
    refine rc_X8_146 X hW lb_V17 e51 ⟨⟨rfl, rfl⟩, Nat.le_of_ble_eq_true rfl, Nat.le_of_ble_eq_true rfl⟩ hl.1 (Nat.le_of_ble_eq_true rfl) dX8_fullThen_51 ⟨Nat.zero_le _, Nat.zero_le _⟩ (fun H locs hW => ?_)
    refine lv_aload_n hx hb dX8_fullThen_54 rfl (lv_at hl 1 rfl) ?_
    refine rg_X8_16 X hW dX8_fullThen_55 ?_
    refine rg_X8_101 (k := 29) X hW lb_V17 rfl dX8_fullThen_58 ?_
    refine lv_iload_n hx hb dX8_fullThen_61 rfl (lv_at hl 2 rfl) ?_
    obtain ⟨i62, h⟩ := lb_chk_in h
    refine lb_ild X hW (show lb_ar 29 = 7 + 1 from rfl) i62 dX8_fullThen_62 ?_
    obtain rfl := Option.some.inj h
    exact lb_iret X hW dX8_fullThen_63
  · have h := (if_neg c17).symm.trans h
    refine lv_aload_n hx hb dX8_fullThen_20 rfl (lv_at hl 1 rfl) ?_
    refine lv_iload_n hx hb dX8_fullThen_21 rfl (lv_at hl 0 rfl) ?_
    obtain ⟨q22, e22, h⟩ := lb_bind h
    refine rc_X8_55 X hW e22 ⟨⟨rfl, rfl⟩, Nat.le_of_ble_eq_true rfl, Nat.le_of_ble_eq_true rfl⟩ hl.1 (Nat.le_of_ble_eq_true rfl) dX8_fullThen_22 ⟨Nat.zero_le _, Nat.zero_le _⟩ (fun H locs hW => ?_)
    obtain rfl := Option.some.inj h
    exact lb_iret X hW dX8_fullThen_25
abbrev rmX8_allGraceBehind : Room := { frames := 6, cells := 0, slots := 0, locals := 141 }
def f_X8_allGraceBehind (x1 : Int32) (σ : lb_Mem) : Option (Int32 × lb_Mem) := (f_X7_become 17 1 σ).bind (fun s8 => (f_X7_pass 17 x1 s8).bind (fun s16 => (f_X7_allGrace s16 17).bind (fun q23 => some (q23, s16))))
set_option maxRecDepth 20000 in
set_option maxHeartbeats 4000000 in
theorem m_X8_allGraceBehind (l : Launch) (G : lb_G) (σ : lb_Mem) (x1 : Int32) (qr : (Int32 × lb_Mem)) (h : f_X8_allGraceBehind x1 σ = some qr) : lb_M l yX8_allGraceBehind cX8_allGraceBehind 2 (some .int) rmX8_allGraceBehind [.ref (lb_ad G 0), .int x1] G σ (lb_QI G qr.1 qr.2) := by
  refine lb_start RX8 (by decide +kernel) rfl (Nat.le_of_ble_eq_true rfl) (fun p e s m below meth c X hW ls hl => ?_)
  have hx := X.1
  have hb := X.2.1
  have hl : lv_has ls 2 [(0, .ref (lb_ad G 0)), (1, .int x1)] := hl
  have h : ((f_X7_become 17 1 σ).bind (fun s8 => (f_X7_pass 17 x1 s8).bind (fun s16 => (f_X7_allGrace s16 17).bind (fun q23 => some (q23, s16))))) = some qr := h
  skip
  refine lv_aload_n hx hb dX8_allGraceBehind_0 rfl (lv_at hl 0 rfl) ?_
  refine rg_X8_16 X hW dX8_allGraceBehind_1 ?_
  refine lv_aload_n hx hb dX8_allGraceBehind_4 rfl (lv_at hl 0 rfl) ?_
  refine rg_X8_10 X hW dX8_allGraceBehind_5 ?_
  obtain ⟨s8, e8, h⟩ := lb_bind h
  refine rc_X8_67 X hW lb_V17 lb_V1 e8 ⟨⟨rfl, rfl⟩, Nat.le_of_ble_eq_true rfl, Nat.le_of_ble_eq_true rfl⟩ hl.1 (Nat.le_of_ble_eq_true rfl) dX8_allGraceBehind_8 ⟨Nat.zero_le _, Nat.zero_le _⟩ (fun H locs hW => ?_)
  refine lv_aload_n hx hb dX8_allGraceBehind_11 rfl (lv_at hl 0 rfl) ?_
  refine rg_X8_16 X hW dX8_allGraceBehind_12 ?_
  refine lv_iload_n hx hb dX8_allGraceBehind_15 rfl (lv_at hl 1 rfl) ?_
  obtain ⟨s16, e16, h⟩ := lb_bind h
  refine rc_X8_140 X hW lb_V17 e16 ⟨⟨rfl, rfl⟩, Nat.le_of_ble_eq_true rfl, Nat.le_of_ble_eq_true rfl⟩ hl.1 (Nat.le_of_ble_eq_true rfl) dX8_allGraceBehind_16 ⟨Nat.zero_le _, Nat.zero_le _⟩ (fun H locs hW => ?_)
  refine lv_aload_n hx hb dX8_allGraceBehind_19 rfl (lv_at hl 0 rfl) ?_
  refine rg_X8_16 X hW dX8_allGraceBehind_20 ?_
  obtain ⟨q23, e23, h⟩ := lb_bind h
  refine rc_X8_143 X hW lb_V17 e23 ⟨⟨rfl, rfl⟩, Nat.le_of_ble_eq_true rfl, Nat.le_of_ble_eq_true rfl⟩ hl.1 (Nat.le_of_ble_eq_true rfl) dX8_allGraceBehind_23 ⟨Nat.zero_le _, Nat.zero_le _⟩ (fun H locs hW => ?_)
  obtain rfl := Option.some.inj h
  exact lb_iret X hW dX8_allGraceBehind_26
theorem rc_X8_150 {p : Program} {l : Launch} {e : Env} {R : Room} {s : State} {m : MethodId} {args : Array Value} {below : List Frame} {meth : Method} {c : Code} {H : Heap} {locs : List Loc} {cells slots : Nat} {Q : State → Prop} {cc : ByteArray} {pc nL : Nat} {ls : Array Slot} {rest : List Value} {G : lb_G} {σ : lb_Mem} {ret : Option FieldType} (X : lb_C G p s m args meth c cc nL RX8 ret) (hW : lb_W G s σ H locs) {x1 : Int32} {qr : (Int32 × lb_Mem)} (h : f_X8_allGraceBehind x1 σ = some qr) (hR : lb_room rmX8_allGraceBehind R 2) (hls : ls.size = nL) (hrest : (rest.map fun v => v.category).sum ≤ 8) (d : decode cc pc = .ok (.invokevirtual 150, 3)) (hcap : cells ≤ R.cells ∧ slots ≤ R.slots) (kk : ∀ (H1 : Heap) (locs1 : List Loc), lb_W G s qr.2 H1 locs1 → W p l e R s m args below meth c H1 locs1 cells slots Q (F0 m (pc + 3) ls (.int qr.1 :: rest))) : W p l e R s m args below meth c H locs cells slots Q (F0 m pc ls (.int x1 :: .ref (lb_ad G 0) :: rest)) :=
  lb_goI hW (lb_runV (As := [.int x1]) X hW (m_X8_allGraceBehind l G σ x1 qr h) (n := 1) ⟨qw_539, qw_43, qw_542, by decide +kernel⟩ hR qw_541 qw_4 lb_is0 rfl hls hrest d hcap) kk
abbrev rmX8_graceThen : Room := { frames := 7, cells := 0, slots := 0, locals := 162 }
def f_X8_graceThen (x1 : Int32) (σ : lb_Mem) : Option (Int32 × lb_Mem) := lb_let ((f_X8_within x1 (0 : Int32) (60 : Int32))) (fun v7 : Int32 => if v7 = 0 then (f_X8_allGraceBehind x1 σ).bind (fun q22 => some (q22.1, q22.2)) else (f_X8_refuse v7 σ).bind (fun q14 => some (q14.1, q14.2)))
set_option maxRecDepth 20000 in
set_option maxHeartbeats 4000000 in
theorem m_X8_graceThen (l : Launch) (G : lb_G) (σ : lb_Mem) (x1 : Int32) (qr : (Int32 × lb_Mem)) (h : f_X8_graceThen x1 σ = some qr) : lb_M l yX8_graceThen cX8_graceThen 3 (some .int) rmX8_graceThen [.ref (lb_ad G 0), .int x1] G σ (lb_QI G qr.1 qr.2) := by
  refine lb_start RX8 (by decide +kernel) rfl (Nat.le_of_ble_eq_true rfl) (fun p e s m below meth c X hW ls hl => ?_)
  have hx := X.1
  have hb := X.2.1
  have hl : lv_has ls 3 [(0, .ref (lb_ad G 0)), (1, .int x1)] := hl
  have h : (lb_let ((f_X8_within x1 (0 : Int32) (60 : Int32))) (fun v7 : Int32 => if v7 = 0 then (f_X8_allGraceBehind x1 σ).bind (fun q22 => some (q22.1, q22.2)) else (f_X8_refuse v7 σ).bind (fun q14 => some (q14.1, q14.2)))) = some qr := h
  skip
  refine lv_iload_n hx hb dX8_graceThen_0 rfl (lv_at hl 1 rfl) ?_
  refine lv_iconst (v := 0) hx hb dX8_graceThen_1 rfl ?_
  refine lv_bipush (v := 60) hx hb dX8_graceThen_2 rfl ?_
  refine rc_X8_44 X hW x1 (0 : Int32) (60 : Int32) ⟨⟨rfl, rfl⟩, Nat.le_of_ble_eq_true rfl, Nat.le_of_ble_eq_true rfl⟩ hl.1 (Nat.le_of_ble_eq_true rfl) dX8_graceThen_4 ⟨Nat.zero_le _, Nat.zero_le _⟩ (fun H locs hW => ?_)
  refine lv_topi (fun v7 e7 => ?_)
  have h := lb_letI e7 h
  refine lv_istore_n (lv' := [(2, .int v7), (0, .ref (lb_ad G 0)), (1, .int x1)]) hx hb dX8_graceThen_7 rfl hl (by decide) rfl (fun ls hl => ?_)
  refine lv_iload_n hx hb dX8_graceThen_8 rfl (lv_at hl 0 rfl) ?_
  refine lv_if_eq (tgt := 20) hx hb dX8_graceThen_9 (by decide) (fun c9 => ?_) (fun c9 => ?_)
  · have h := (if_pos c9).symm.trans h
    refine lv_aload_n hx hb dX8_graceThen_20 rfl (lv_at hl 1 rfl) ?_
    refine lv_iload_n hx hb dX8_graceThen_21 rfl (lv_at hl 2 rfl) ?_
    obtain ⟨q22, e22, h⟩ := lb_bind h
    refine rc_X8_150 X hW e22 ⟨⟨rfl, rfl⟩, Nat.le_of_ble_eq_true rfl, Nat.le_of_ble_eq_true rfl⟩ hl.1 (Nat.le_of_ble_eq_true rfl) dX8_graceThen_22 ⟨Nat.zero_le _, Nat.zero_le _⟩ (fun H locs hW => ?_)
    obtain rfl := Option.some.inj h
    exact lb_iret X hW dX8_graceThen_25
  · have h := (if_neg c9).symm.trans h
    refine lv_aload_n hx hb dX8_graceThen_12 rfl (lv_at hl 1 rfl) ?_
    refine lv_iload_n hx hb dX8_graceThen_13 rfl (lv_at hl 0 rfl) ?_
    obtain ⟨q14, e14, h⟩ := lb_bind h
    refine rc_X8_55 X hW e14 ⟨⟨rfl, rfl⟩, Nat.le_of_ble_eq_true rfl, Nat.le_of_ble_eq_true rfl⟩ hl.1 (Nat.le_of_ble_eq_true rfl) dX8_graceThen_14 ⟨Nat.zero_le _, Nat.zero_le _⟩ (fun H locs hW => ?_)
    refine lv_goto (tgt := 25) hx hb dX8_graceThen_17 (by decide) ?_
    obtain rfl := Option.some.inj h
    exact lb_iret X hW dX8_graceThen_25
abbrev rmX8_firstGraceless : Room := { frames := 6, cells := 0, slots := 0, locals := 141 }
def f_X8_firstGraceless_21 (kc13 : Int32 → lb_Mem → Option (Int32 × lb_Mem)) : Nat → Int32 → Int32 → lb_Mem → Option (Int32 × lb_Mem)
  | 0, _, _, _ => none
  | n + 1, x1, x2, σ => if (σ 17 10) ≤ x2 then (f_X7_pass 17 (1 : Int32) σ).bind (fun s57 => kc13 (x1 + 1) s57) else lb_chk (lb_ix x2 5) (if (σ 32 x2.toNatClampNeg) = 0 then some (x2, σ) else f_X8_firstGraceless_21 kc13 n x1 (x2 + 1) σ)
set_option maxRecDepth 20000 in
set_option maxHeartbeats 4000000 in
theorem w_X8_firstGraceless_21 {p : Program} {l : Launch} {e : Env} {s : State} {m : MethodId} {args : Array Value} {below : List Frame} {meth : Method} {c : Code} {G : lb_G} {qr : (Int32 × lb_Mem)} (X : lb_C G p s m args meth c cX8_firstGraceless 3 RX8 (some .int)) {kc13 : Int32 → lb_Mem → Option (Int32 × lb_Mem)} (hc13 : ∀ (x1 : Int32) (σ : lb_Mem) (H : Heap) (locs : List Loc) (ls : Array Slot), kc13 x1 σ = some qr → lb_W G s σ H locs → lv_has ls 3 [(0, .ref (lb_ad G 0)), (1, .int x1)] → W p l e rmX8_firstGraceless s m args below meth c H locs 0 0 (MQ below (lb_QI G qr.1 qr.2) args s 0 0 (lb_A G)) (F0 m 13 ls [])) : ∀ (n : Nat) (x1 : Int32) (x2 : Int32) (σ : lb_Mem) (H : Heap) (locs : List Loc) (ls : Array Slot), f_X8_firstGraceless_21 kc13 n x1 x2 σ = some qr → lb_W G s σ H locs → lv_has ls 3 [(0, .ref (lb_ad G 0)), (1, .int x1), (2, .int x2)] → W p l e rmX8_firstGraceless s m args below meth c H locs 0 0 (MQ below (lb_QI G qr.1 qr.2) args s 0 0 (lb_A G)) (F0 m 21 ls []) := by
  have hx := X.1
  have hb := X.2.1
  intro n
  induction n with
  | zero => intro x1 x2 σ H locs ls h hW hl; exact absurd h (fun z => by cases z)
  | succ n ih =>
    intro x1 x2 σ H locs ls h hW hl
    have h : (if (σ 17 10) ≤ x2 then (f_X7_pass 17 (1 : Int32) σ).bind (fun s57 => kc13 (x1 + 1) s57) else lb_chk (lb_ix x2 5) (if (σ 32 x2.toNatClampNeg) = 0 then some (x2, σ) else f_X8_firstGraceless_21 kc13 n x1 (x2 + 1) σ)) = some qr := h
    refine lv_iload_n hx hb dX8_firstGraceless_21 rfl (lv_at hl 2 rfl) ?_
    refine lv_aload_n hx hb dX8_firstGraceless_22 rfl (lv_at hl 0 rfl) ?_
    refine rg_X8_16 X hW dX8_firstGraceless_23 ?_
    refine rg_X8_156 X hW lb_V17 dX8_firstGraceless_26 ?_
    refine lv_icmp_ge (tgt := 52) hx hb dX8_firstGraceless_29 (by decide) (fun c29 => ?_) (fun c29 => ?_)
    · have h := (if_pos c29).symm.trans h
      refine lv_aload_n hx hb dX8_firstGraceless_52 rfl (lv_at hl 0 rfl) ?_
      refine rg_X8_16 X hW dX8_firstGraceless_53 ?_
      refine lv_iconst (v := 1) hx hb dX8_firstGraceless_56 rfl ?_
      obtain ⟨s57, e57, h⟩ := lb_bind h
      refine rc_X8_140 X hW lb_V17 e57 ⟨⟨rfl, rfl⟩, Nat.le_of_ble_eq_true rfl, Nat.le_of_ble_eq_true rfl⟩ hl.1 (Nat.le_of_ble_eq_true rfl) dX8_firstGraceless_57 ⟨Nat.zero_le _, Nat.zero_le _⟩ (fun H locs hW => ?_)
      refine lv_iinc (v := (x1 + 1)) (lv' := [(1, .int (x1 + 1)), (0, .ref (lb_ad G 0)), (2, .int x2)]) hx hb dX8_firstGraceless_60 hl (k := 1) rfl rfl (by decide) rfl (fun ls hl => ?_)
      refine lv_goto (tgt := 13) hx hb dX8_firstGraceless_63 (by decide) ?_
      exact hc13 (x1 + 1) s57 _ _ _ h hW (lv_sub hl [1, 0] rfl)
    · have h := (if_neg c29).symm.trans h
      refine lv_aload_n hx hb dX8_firstGraceless_32 rfl (lv_at hl 0 rfl) ?_
      refine rg_X8_16 X hW dX8_firstGraceless_33 ?_
      refine rg_X8_113 (k := 32) X hW lb_V17 rfl dX8_firstGraceless_36 ?_
      refine lv_iload_n hx hb dX8_firstGraceless_39 rfl (lv_at hl 2 rfl) ?_
      obtain ⟨i40, h⟩ := lb_chk_in h
      refine lb_ild X hW (show lb_ar 32 = 4 + 1 from rfl) i40 dX8_firstGraceless_40 ?_
      refine lv_if_ne (tgt := 46) hx hb dX8_firstGraceless_41 (by decide) (fun c41 => ?_) (fun c41 => ?_)
      · have h := (if_neg c41).symm.trans h
        refine lv_iinc (v := (x2 + 1)) (lv' := [(2, .int (x2 + 1)), (0, .ref (lb_ad G 0)), (1, .int x1)]) hx hb dX8_firstGraceless_46 hl (k := 2) rfl rfl (by decide) rfl (fun ls hl => ?_)
        refine lv_goto (tgt := 21) hx hb dX8_firstGraceless_49 (by decide) ?_
        exact ih x1 (x2 + 1) σ _ _ _ h hW (lv_sub hl [1, 2, 0] rfl)
      · have h := (if_pos c41).symm.trans h
        refine lv_iload_n hx hb dX8_firstGraceless_44 rfl (lv_at hl 2 rfl) ?_
        obtain rfl := Option.some.inj h
        exact lb_iret X hW dX8_firstGraceless_45
def f_X8_firstGraceless_13 : Nat → Int32 → lb_Mem → Option (Int32 × lb_Mem)
  | 0, _, _ => none
  | n + 1, x1, σ => if (60 : Int32) < x1 then some ((-9 : Int32), σ) else f_X8_firstGraceless_21 (fun (x1 : Int32) (σ : lb_Mem) => f_X8_firstGraceless_13 n x1 σ) lb_N x1 (0 : Int32) σ
set_option maxRecDepth 20000 in
set_option maxHeartbeats 4000000 in
theorem w_X8_firstGraceless_13 {p : Program} {l : Launch} {e : Env} {s : State} {m : MethodId} {args : Array Value} {below : List Frame} {meth : Method} {c : Code} {G : lb_G} {qr : (Int32 × lb_Mem)} (X : lb_C G p s m args meth c cX8_firstGraceless 3 RX8 (some .int)) : ∀ (n : Nat) (x1 : Int32) (σ : lb_Mem) (H : Heap) (locs : List Loc) (ls : Array Slot), f_X8_firstGraceless_13 n x1 σ = some qr → lb_W G s σ H locs → lv_has ls 3 [(0, .ref (lb_ad G 0)), (1, .int x1)] → W p l e rmX8_firstGraceless s m args below meth c H locs 0 0 (MQ below (lb_QI G qr.1 qr.2) args s 0 0 (lb_A G)) (F0 m 13 ls []) := by
  have hx := X.1
  have hb := X.2.1
  intro n
  induction n with
  | zero => intro x1 σ H locs ls h hW hl; exact absurd h (fun z => by cases z)
  | succ n ih =>
    intro x1 σ H locs ls h hW hl
    have h : (if (60 : Int32) < x1 then some ((-9 : Int32), σ) else f_X8_firstGraceless_21 (fun (x1 : Int32) (σ : lb_Mem) => f_X8_firstGraceless_13 n x1 σ) lb_N x1 (0 : Int32) σ) = some qr := h
    refine lv_iload_n hx hb dX8_firstGraceless_13 rfl (lv_at hl 1 rfl) ?_
    refine lv_bipush (v := 60) hx hb dX8_firstGraceless_14 rfl ?_
    refine lv_icmp_gt (tgt := 66) hx hb dX8_firstGraceless_16 (by decide) (fun c16 => ?_) (fun c16 => ?_)
    · have h := (if_pos c16).symm.trans h
      refine lv_bipush (v := -9) hx hb dX8_firstGraceless_66 rfl ?_
      obtain rfl := Option.some.inj h
      exact lb_iret X hW dX8_firstGraceless_68
    · have h := (if_neg c16).symm.trans h
      refine lv_iconst (v := 0) hx hb dX8_firstGraceless_19 rfl ?_
      refine lv_istore_n (lv' := [(2, .int (0 : Int32)), (0, .ref (lb_ad G 0)), (1, .int x1)]) hx hb dX8_firstGraceless_20 rfl hl (by decide) rfl (fun ls hl => ?_)
      exact w_X8_firstGraceless_21 X ih lb_N x1 (0 : Int32) σ _ _ _ h hW (lv_sub hl [1, 2, 0] rfl)
def f_X8_firstGraceless (σ : lb_Mem) : Option (Int32 × lb_Mem) := (f_X7_become 17 1 σ).bind (fun s8 => f_X8_firstGraceless_13 lb_N (0 : Int32) s8)
set_option maxRecDepth 20000 in
set_option maxHeartbeats 4000000 in
theorem m_X8_firstGraceless (l : Launch) (G : lb_G) (σ : lb_Mem) (qr : (Int32 × lb_Mem)) (h : f_X8_firstGraceless σ = some qr) : lb_M l yX8_firstGraceless cX8_firstGraceless 3 (some .int) rmX8_firstGraceless [.ref (lb_ad G 0)] G σ (lb_QI G qr.1 qr.2) := by
  refine lb_start RX8 (by decide +kernel) rfl (Nat.le_of_ble_eq_true rfl) (fun p e s m below meth c X hW ls hl => ?_)
  have hx := X.1
  have hb := X.2.1
  have hl : lv_has ls 3 [(0, .ref (lb_ad G 0))] := hl
  have h : ((f_X7_become 17 1 σ).bind (fun s8 => f_X8_firstGraceless_13 lb_N (0 : Int32) s8)) = some qr := h
  skip
  refine lv_aload_n hx hb dX8_firstGraceless_0 rfl (lv_at hl 0 rfl) ?_
  refine rg_X8_16 X hW dX8_firstGraceless_1 ?_
  refine lv_aload_n hx hb dX8_firstGraceless_4 rfl (lv_at hl 0 rfl) ?_
  refine rg_X8_10 X hW dX8_firstGraceless_5 ?_
  obtain ⟨s8, e8, h⟩ := lb_bind h
  refine rc_X8_67 X hW lb_V17 lb_V1 e8 ⟨⟨rfl, rfl⟩, Nat.le_of_ble_eq_true rfl, Nat.le_of_ble_eq_true rfl⟩ hl.1 (Nat.le_of_ble_eq_true rfl) dX8_firstGraceless_8 ⟨Nat.zero_le _, Nat.zero_le _⟩ (fun H locs hW => ?_)
  refine lv_iconst (v := 0) hx hb dX8_firstGraceless_11 rfl ?_
  refine lv_istore_n (lv' := [(1, .int (0 : Int32)), (0, .ref (lb_ad G 0))]) hx hb dX8_firstGraceless_12 rfl hl (by decide) rfl (fun ls hl => ?_)
  exact w_X8_firstGraceless_13 X lb_N (0 : Int32) s8 _ _ _ h hW (lv_sub hl [1, 0] rfl)
theorem rc_X8_153 {p : Program} {l : Launch} {e : Env} {R : Room} {s : State} {m : MethodId} {args : Array Value} {below : List Frame} {meth : Method} {c : Code} {H : Heap} {locs : List Loc} {cells slots : Nat} {Q : State → Prop} {cc : ByteArray} {pc nL : Nat} {ls : Array Slot} {rest : List Value} {G : lb_G} {σ : lb_Mem} {ret : Option FieldType} (X : lb_C G p s m args meth c cc nL RX8 ret) (hW : lb_W G s σ H locs) {qr : (Int32 × lb_Mem)} (h : f_X8_firstGraceless σ = some qr) (hR : lb_room rmX8_firstGraceless R 3) (hls : ls.size = nL) (hrest : (rest.map fun v => v.category).sum ≤ 8) (d : decode cc pc = .ok (.invokevirtual 153, 3)) (hcap : cells ≤ R.cells ∧ slots ≤ R.slots) (kk : ∀ (H1 : Heap) (locs1 : List Loc), lb_W G s qr.2 H1 locs1 → W p l e R s m args below meth c H1 locs1 cells slots Q (F0 m (pc + 3) ls (.int qr.1 :: rest))) : W p l e R s m args below meth c H locs cells slots Q (F0 m pc ls (.ref (lb_ad G 0) :: rest)) :=
  lb_goI hW (lb_runV (As := []) X hW (m_X8_firstGraceless l G σ qr h) (n := 0) ⟨qw_547, qw_43, qw_550, by decide +kernel⟩ hR qw_549 qw_5 lb_is0 rfl hls hrest d hcap) kk
abbrev rmX8_graceless : Room := { frames := 7, cells := 0, slots := 0, locals := 163 }
def f_X8_graceless_39 : Nat → Int32 → Int32 → lb_Mem → Option (Int32 × lb_Mem)
  | 0, _, _, _ => none
  | n + 1, x1, x3, σ => if (60 : Int32) < x3 then some ((-9 : Int32), σ) else lb_chk (lb_ix x1 5) (if (σ 32 x1.toNatClampNeg) = 0 then some (x3, σ) else (f_X7_passFor 17 x1 (1 : Int32) σ).bind (fun s65 => f_X8_graceless_39 n x1 (x3 + 1) s65))
set_option maxRecDepth 20000 in
set_option maxHeartbeats 4000000 in
theorem w_X8_graceless_39 {p : Program} {l : Launch} {e : Env} {s : State} {m : MethodId} {args : Array Value} {below : List Frame} {meth : Method} {c : Code} {G : lb_G} {qr : (Int32 × lb_Mem)} (X : lb_C G p s m args meth c cX8_graceless 4 RX8 (some .int)) : ∀ (n : Nat) (x1 : Int32) (x3 : Int32) (σ : lb_Mem) (H : Heap) (locs : List Loc) (ls : Array Slot), f_X8_graceless_39 n x1 x3 σ = some qr → lb_W G s σ H locs → lv_has ls 4 [(0, .ref (lb_ad G 0)), (1, .int x1), (3, .int x3)] → W p l e rmX8_graceless s m args below meth c H locs 0 0 (MQ below (lb_QI G qr.1 qr.2) args s 0 0 (lb_A G)) (F0 m 39 ls []) := by
  have hx := X.1
  have hb := X.2.1
  intro n
  induction n with
  | zero => intro x1 x3 σ H locs ls h hW hl; exact absurd h (fun z => by cases z)
  | succ n ih =>
    intro x1 x3 σ H locs ls h hW hl
    have h : (if (60 : Int32) < x3 then some ((-9 : Int32), σ) else lb_chk (lb_ix x1 5) (if (σ 32 x1.toNatClampNeg) = 0 then some (x3, σ) else (f_X7_passFor 17 x1 (1 : Int32) σ).bind (fun s65 => f_X8_graceless_39 n x1 (x3 + 1) s65))) = some qr := h
    refine lv_iload_n hx hb dX8_graceless_39 rfl (lv_at hl 2 rfl) ?_
    refine lv_bipush (v := 60) hx hb dX8_graceless_40 rfl ?_
    refine lv_icmp_gt (tgt := 74) hx hb dX8_graceless_42 (by decide) (fun c42 => ?_) (fun c42 => ?_)
    · have h := (if_pos c42).symm.trans h
      refine lv_bipush (v := -9) hx hb dX8_graceless_74 rfl ?_
      obtain rfl := Option.some.inj h
      exact lb_iret X hW dX8_graceless_76
    · have h := (if_neg c42).symm.trans h
      refine lv_aload_n hx hb dX8_graceless_45 rfl (lv_at hl 0 rfl) ?_
      refine rg_X8_16 X hW dX8_graceless_46 ?_
      refine rg_X8_113 (k := 32) X hW lb_V17 rfl dX8_graceless_49 ?_
      refine lv_iload_n hx hb dX8_graceless_52 rfl (lv_at hl 1 rfl) ?_
      obtain ⟨i53, h⟩ := lb_chk_in h
      refine lb_ild X hW (show lb_ar 32 = 4 + 1 from rfl) i53 dX8_graceless_53 ?_
      refine lv_if_ne (tgt := 59) hx hb dX8_graceless_54 (by decide) (fun c54 => ?_) (fun c54 => ?_)
      · have h := (if_neg c54).symm.trans h
        refine lv_aload_n hx hb dX8_graceless_59 rfl (lv_at hl 0 rfl) ?_
        refine rg_X8_16 X hW dX8_graceless_60 ?_
        refine lv_iload_n hx hb dX8_graceless_63 rfl (lv_at hl 1 rfl) ?_
        refine lv_iconst (v := 1) hx hb dX8_graceless_64 rfl ?_
        obtain ⟨s65, e65, h⟩ := lb_bind h
        refine rc_X8_146 X hW lb_V17 e65 ⟨⟨rfl, rfl⟩, Nat.le_of_ble_eq_true rfl, Nat.le_of_ble_eq_true rfl⟩ hl.1 (Nat.le_of_ble_eq_true rfl) dX8_graceless_65 ⟨Nat.zero_le _, Nat.zero_le _⟩ (fun H locs hW => ?_)
        refine lv_iinc (v := (x3 + 1)) (lv' := [(3, .int (x3 + 1)), (0, .ref (lb_ad G 0)), (1, .int x1)]) hx hb dX8_graceless_68 hl (k := 2) rfl rfl (by decide) rfl (fun ls hl => ?_)
        refine lv_goto (tgt := 39) hx hb dX8_graceless_71 (by decide) ?_
        exact ih x1 (x3 + 1) s65 _ _ _ h hW (lv_sub hl [1, 2, 0] rfl)
      · have h := (if_pos c54).symm.trans h
        refine lv_iload_n hx hb dX8_graceless_57 rfl (lv_at hl 2 rfl) ?_
        obtain rfl := Option.some.inj h
        exact lb_iret X hW dX8_graceless_58
def f_X8_graceless (x1 : Int32) (σ : lb_Mem) : Option (Int32 × lb_Mem) := if x1 = (-1 : Int32) then (f_X8_firstGraceless σ).bind (fun q6 => some (q6.1, q6.2)) else lb_let ((f_X8_personThere σ x1)) (fun v15 : Int32 => if v15 = 0 then (f_X7_become 17 1 σ).bind (fun s34 => f_X8_graceless_39 lb_N x1 (0 : Int32) s34) else (f_X8_refuse v15 σ).bind (fun q22 => some (q22.1, q22.2)))
set_option maxRecDepth 20000 in
set_option maxHeartbeats 4000000 in
theorem m_X8_graceless (l : Launch) (G : lb_G) (σ : lb_Mem) (x1 : Int32) (qr : (Int32 × lb_Mem)) (h : f_X8_graceless x1 σ = some qr) : lb_M l yX8_graceless cX8_graceless 4 (some .int) rmX8_graceless [.ref (lb_ad G 0), .int x1] G σ (lb_QI G qr.1 qr.2) := by
  refine lb_start RX8 (by decide +kernel) rfl (Nat.le_of_ble_eq_true rfl) (fun p e s m below meth c X hW ls hl => ?_)
  have hx := X.1
  have hb := X.2.1
  have hl : lv_has ls 4 [(0, .ref (lb_ad G 0)), (1, .int x1)] := hl
  have h : (if x1 = (-1 : Int32) then (f_X8_firstGraceless σ).bind (fun q6 => some (q6.1, q6.2)) else lb_let ((f_X8_personThere σ x1)) (fun v15 : Int32 => if v15 = 0 then (f_X7_become 17 1 σ).bind (fun s34 => f_X8_graceless_39 lb_N x1 (0 : Int32) s34) else (f_X8_refuse v15 σ).bind (fun q22 => some (q22.1, q22.2)))) = some qr := h
  skip
  refine lv_iload_n hx hb dX8_graceless_0 rfl (lv_at hl 1 rfl) ?_
  refine lv_iconst (v := -1) hx hb dX8_graceless_1 rfl ?_
  refine lv_icmp_ne (tgt := 10) hx hb dX8_graceless_2 (by decide) (fun c2 => ?_) (fun c2 => ?_)
  · have h := (if_neg c2).symm.trans h
    refine lv_aload_n hx hb dX8_graceless_10 rfl (lv_at hl 0 rfl) ?_
    refine lv_iload_n hx hb dX8_graceless_11 rfl (lv_at hl 1 rfl) ?_
    refine rc_X8_107 X hW x1 ⟨⟨rfl, rfl⟩, Nat.le_of_ble_eq_true rfl, Nat.le_of_ble_eq_true rfl⟩ hl.1 (Nat.le_of_ble_eq_true rfl) dX8_graceless_12 ⟨Nat.zero_le _, Nat.zero_le _⟩ (fun H locs hW => ?_)
    refine lv_topi (fun v15 e15 => ?_)
    have h := lb_letI e15 h
    refine lv_istore_n (lv' := [(2, .int v15), (0, .ref (lb_ad G 0)), (1, .int x1)]) hx hb dX8_graceless_15 rfl hl (by decide) rfl (fun ls hl => ?_)
    refine lv_iload_n hx hb dX8_graceless_16 rfl (lv_at hl 0 rfl) ?_
    refine lv_if_eq (tgt := 26) hx hb dX8_graceless_17 (by decide) (fun c17 => ?_) (fun c17 => ?_)
    · have h := (if_pos c17).symm.trans h
      refine lv_aload_n hx hb dX8_graceless_26 rfl (lv_at hl 1 rfl) ?_
      refine rg_X8_16 X hW dX8_graceless_27 ?_
      refine lv_aload_n hx hb dX8_graceless_30 rfl (lv_at hl 1 rfl) ?_
      refine rg_X8_10 X hW dX8_graceless_31 ?_
      obtain ⟨s34, e34, h⟩ := lb_bind h
      refine rc_X8_67 X hW lb_V17 lb_V1 e34 ⟨⟨rfl, rfl⟩, Nat.le_of_ble_eq_true rfl, Nat.le_of_ble_eq_true rfl⟩ hl.1 (Nat.le_of_ble_eq_true rfl) dX8_graceless_34 ⟨Nat.zero_le _, Nat.zero_le _⟩ (fun H locs hW => ?_)
      refine lv_iconst (v := 0) hx hb dX8_graceless_37 rfl ?_
      refine lv_istore_n (lv' := [(3, .int (0 : Int32)), (2, .int v15), (0, .ref (lb_ad G 0)), (1, .int x1)]) hx hb dX8_graceless_38 rfl hl (by decide) rfl (fun ls hl => ?_)
      exact w_X8_graceless_39 X lb_N x1 (0 : Int32) s34 _ _ _ h hW (lv_sub hl [2, 3, 0] rfl)
    · have h := (if_neg c17).symm.trans h
      refine lv_aload_n hx hb dX8_graceless_20 rfl (lv_at hl 1 rfl) ?_
      refine lv_iload_n hx hb dX8_graceless_21 rfl (lv_at hl 0 rfl) ?_
      obtain ⟨q22, e22, h⟩ := lb_bind h
      refine rc_X8_55 X hW e22 ⟨⟨rfl, rfl⟩, Nat.le_of_ble_eq_true rfl, Nat.le_of_ble_eq_true rfl⟩ hl.1 (Nat.le_of_ble_eq_true rfl) dX8_graceless_22 ⟨Nat.zero_le _, Nat.zero_le _⟩ (fun H locs hW => ?_)
      obtain rfl := Option.some.inj h
      exact lb_iret X hW dX8_graceless_25
  · have h := (if_pos c2).symm.trans h
    refine lv_aload_n hx hb dX8_graceless_5 rfl (lv_at hl 0 rfl) ?_
    obtain ⟨q6, e6, h⟩ := lb_bind h
    refine rc_X8_153 X hW e6 ⟨⟨rfl, rfl⟩, Nat.le_of_ble_eq_true rfl, Nat.le_of_ble_eq_true rfl⟩ hl.1 (Nat.le_of_ble_eq_true rfl) dX8_graceless_6 ⟨Nat.zero_le _, Nat.zero_le _⟩ (fun H locs hW => ?_)
    obtain rfl := Option.some.inj h
    exact lb_iret X hW dX8_graceless_9
abbrev rmX8_empties : Room := { frames := 5, cells := 0, slots := 0, locals := 119 }
def f_X8_empties_29 : Nat → Int32 → Int32 → lb_Mem → Option (Int32 × lb_Mem)
  | 0, _, _, _ => none
  | n + 1, x1, x3, σ => if (60 : Int32) < x3 then some ((-9 : Int32), σ) else lb_chk (lb_ix x1 8) (if (σ 29 x1.toNatClampNeg) = 0 then some (x3, σ) else lb_chk (lb_ix x1 8) ((f_X7_passFor 17 (σ 30 x1.toNatClampNeg) (1 : Int32) σ).bind (fun s63 => f_X8_empties_29 n x1 (x3 + 1) s63)))
set_option maxRecDepth 20000 in
set_option maxHeartbeats 4000000 in
theorem w_X8_empties_29 {p : Program} {l : Launch} {e : Env} {s : State} {m : MethodId} {args : Array Value} {below : List Frame} {meth : Method} {c : Code} {G : lb_G} {qr : (Int32 × lb_Mem)} (X : lb_C G p s m args meth c cX8_empties 4 RX8 (some .int)) : ∀ (n : Nat) (x1 : Int32) (x3 : Int32) (σ : lb_Mem) (H : Heap) (locs : List Loc) (ls : Array Slot), f_X8_empties_29 n x1 x3 σ = some qr → lb_W G s σ H locs → lv_has ls 4 [(0, .ref (lb_ad G 0)), (1, .int x1), (3, .int x3)] → W p l e rmX8_empties s m args below meth c H locs 0 0 (MQ below (lb_QI G qr.1 qr.2) args s 0 0 (lb_A G)) (F0 m 29 ls []) := by
  have hx := X.1
  have hb := X.2.1
  intro n
  induction n with
  | zero => intro x1 x3 σ H locs ls h hW hl; exact absurd h (fun z => by cases z)
  | succ n ih =>
    intro x1 x3 σ H locs ls h hW hl
    have h : (if (60 : Int32) < x3 then some ((-9 : Int32), σ) else lb_chk (lb_ix x1 8) (if (σ 29 x1.toNatClampNeg) = 0 then some (x3, σ) else lb_chk (lb_ix x1 8) ((f_X7_passFor 17 (σ 30 x1.toNatClampNeg) (1 : Int32) σ).bind (fun s63 => f_X8_empties_29 n x1 (x3 + 1) s63)))) = some qr := h
    refine lv_iload_n hx hb dX8_empties_29 rfl (lv_at hl 2 rfl) ?_
    refine lv_bipush (v := 60) hx hb dX8_empties_30 rfl ?_
    refine lv_icmp_gt (tgt := 72) hx hb dX8_empties_32 (by decide) (fun c32 => ?_) (fun c32 => ?_)
    · have h := (if_pos c32).symm.trans h
      refine lv_bipush (v := -9) hx hb dX8_empties_72 rfl ?_
      obtain rfl := Option.some.inj h
      exact lb_iret X hW dX8_empties_74
    · have h := (if_neg c32).symm.trans h
      refine lv_aload_n hx hb dX8_empties_35 rfl (lv_at hl 0 rfl) ?_
      refine rg_X8_16 X hW dX8_empties_36 ?_
      refine rg_X8_101 (k := 29) X hW lb_V17 rfl dX8_empties_39 ?_
      refine lv_iload_n hx hb dX8_empties_42 rfl (lv_at hl 1 rfl) ?_
      obtain ⟨i43, h⟩ := lb_chk_in h
      refine lb_ild X hW (show lb_ar 29 = 7 + 1 from rfl) i43 dX8_empties_43 ?_
      refine lv_if_ne (tgt := 49) hx hb dX8_empties_44 (by decide) (fun c44 => ?_) (fun c44 => ?_)
      · have h := (if_neg c44).symm.trans h
        refine lv_aload_n hx hb dX8_empties_49 rfl (lv_at hl 0 rfl) ?_
        refine rg_X8_16 X hW dX8_empties_50 ?_
        refine lv_aload_n hx hb dX8_empties_53 rfl (lv_at hl 0 rfl) ?_
        refine rg_X8_16 X hW dX8_empties_54 ?_
        refine rg_X8_104 (k := 30) X hW lb_V17 rfl dX8_empties_57 ?_
        refine lv_iload_n hx hb dX8_empties_60 rfl (lv_at hl 1 rfl) ?_
        obtain ⟨i61, h⟩ := lb_chk_in h
        refine lb_ild X hW (show lb_ar 30 = 7 + 1 from rfl) i61 dX8_empties_61 ?_
        refine lv_iconst (v := 1) hx hb dX8_empties_62 rfl ?_
        obtain ⟨s63, e63, h⟩ := lb_bind h
        refine rc_X8_146 X hW lb_V17 e63 ⟨⟨rfl, rfl⟩, Nat.le_of_ble_eq_true rfl, Nat.le_of_ble_eq_true rfl⟩ hl.1 (Nat.le_of_ble_eq_true rfl) dX8_empties_63 ⟨Nat.zero_le _, Nat.zero_le _⟩ (fun H locs hW => ?_)
        refine lv_iinc (v := (x3 + 1)) (lv' := [(3, .int (x3 + 1)), (0, .ref (lb_ad G 0)), (1, .int x1)]) hx hb dX8_empties_66 hl (k := 2) rfl rfl (by decide) rfl (fun ls hl => ?_)
        refine lv_goto (tgt := 29) hx hb dX8_empties_69 (by decide) ?_
        exact ih x1 (x3 + 1) s63 _ _ _ h hW (lv_sub hl [1, 2, 0] rfl)
      · have h := (if_pos c44).symm.trans h
        refine lv_iload_n hx hb dX8_empties_47 rfl (lv_at hl 2 rfl) ?_
        obtain rfl := Option.some.inj h
        exact lb_iret X hW dX8_empties_48
def f_X8_empties (x1 : Int32) (σ : lb_Mem) : Option (Int32 × lb_Mem) := lb_let ((f_X8_potThere σ x1)) (fun v5 : Int32 => if v5 = 0 then (f_X7_become 17 1 σ).bind (fun s24 => f_X8_empties_29 lb_N x1 (0 : Int32) s24) else (f_X8_refuse v5 σ).bind (fun q12 => some (q12.1, q12.2)))
set_option maxRecDepth 20000 in
set_option maxHeartbeats 4000000 in
theorem m_X8_empties (l : Launch) (G : lb_G) (σ : lb_Mem) (x1 : Int32) (qr : (Int32 × lb_Mem)) (h : f_X8_empties x1 σ = some qr) : lb_M l yX8_empties cX8_empties 4 (some .int) rmX8_empties [.ref (lb_ad G 0), .int x1] G σ (lb_QI G qr.1 qr.2) := by
  refine lb_start RX8 (by decide +kernel) rfl (Nat.le_of_ble_eq_true rfl) (fun p e s m below meth c X hW ls hl => ?_)
  have hx := X.1
  have hb := X.2.1
  have hl : lv_has ls 4 [(0, .ref (lb_ad G 0)), (1, .int x1)] := hl
  have h : (lb_let ((f_X8_potThere σ x1)) (fun v5 : Int32 => if v5 = 0 then (f_X7_become 17 1 σ).bind (fun s24 => f_X8_empties_29 lb_N x1 (0 : Int32) s24) else (f_X8_refuse v5 σ).bind (fun q12 => some (q12.1, q12.2)))) = some qr := h
  skip
  refine lv_aload_n hx hb dX8_empties_0 rfl (lv_at hl 0 rfl) ?_
  refine lv_iload_n hx hb dX8_empties_1 rfl (lv_at hl 1 rfl) ?_
  refine rc_X8_83 X hW x1 ⟨⟨rfl, rfl⟩, Nat.le_of_ble_eq_true rfl, Nat.le_of_ble_eq_true rfl⟩ hl.1 (Nat.le_of_ble_eq_true rfl) dX8_empties_2 ⟨Nat.zero_le _, Nat.zero_le _⟩ (fun H locs hW => ?_)
  refine lv_topi (fun v5 e5 => ?_)
  have h := lb_letI e5 h
  refine lv_istore_n (lv' := [(2, .int v5), (0, .ref (lb_ad G 0)), (1, .int x1)]) hx hb dX8_empties_5 rfl hl (by decide) rfl (fun ls hl => ?_)
  refine lv_iload_n hx hb dX8_empties_6 rfl (lv_at hl 0 rfl) ?_
  refine lv_if_eq (tgt := 16) hx hb dX8_empties_7 (by decide) (fun c7 => ?_) (fun c7 => ?_)
  · have h := (if_pos c7).symm.trans h
    refine lv_aload_n hx hb dX8_empties_16 rfl (lv_at hl 1 rfl) ?_
    refine rg_X8_16 X hW dX8_empties_17 ?_
    refine lv_aload_n hx hb dX8_empties_20 rfl (lv_at hl 1 rfl) ?_
    refine rg_X8_10 X hW dX8_empties_21 ?_
    obtain ⟨s24, e24, h⟩ := lb_bind h
    refine rc_X8_67 X hW lb_V17 lb_V1 e24 ⟨⟨rfl, rfl⟩, Nat.le_of_ble_eq_true rfl, Nat.le_of_ble_eq_true rfl⟩ hl.1 (Nat.le_of_ble_eq_true rfl) dX8_empties_24 ⟨Nat.zero_le _, Nat.zero_le _⟩ (fun H locs hW => ?_)
    refine lv_iconst (v := 0) hx hb dX8_empties_27 rfl ?_
    refine lv_istore_n (lv' := [(3, .int (0 : Int32)), (2, .int v5), (0, .ref (lb_ad G 0)), (1, .int x1)]) hx hb dX8_empties_28 rfl hl (by decide) rfl (fun ls hl => ?_)
    exact w_X8_empties_29 X lb_N x1 (0 : Int32) s24 _ _ _ h hW (lv_sub hl [2, 3, 0] rfl)
  · have h := (if_neg c7).symm.trans h
    refine lv_aload_n hx hb dX8_empties_10 rfl (lv_at hl 1 rfl) ?_
    refine lv_iload_n hx hb dX8_empties_11 rfl (lv_at hl 0 rfl) ?_
    obtain ⟨q12, e12, h⟩ := lb_bind h
    refine rc_X8_55 X hW e12 ⟨⟨rfl, rfl⟩, Nat.le_of_ble_eq_true rfl, Nat.le_of_ble_eq_true rfl⟩ hl.1 (Nat.le_of_ble_eq_true rfl) dX8_empties_12 ⟨Nat.zero_le _, Nat.zero_le _⟩ (fun H locs hW => ?_)
    obtain rfl := Option.some.inj h
    exact lb_iret X hW dX8_empties_15
abbrev rmX8_label : Room := { frames := 5, cells := 0, slots := 0, locals := 119 }
def f_X8_label_46 : Nat → Int32 → Int32 → Int32 → Int32 → Int32 → Int32 → lb_Mem → Option (Int32 × lb_Mem)
  | 0, _, _, _, _, _, _, _ => none
  | n + 1, x1, x2, x4, x5, x6, x7, σ => if (6 : Int32) < x7 then some (x5, σ) else (f_X7_become 17 1 σ).bind (fun s61 => lb_chk (lb_ix x1 8) (lb_let (lb_sto s61 28 x1.toNatClampNeg x7) (fun s74 : lb_Mem => (f_X7_passFor 17 x4 x2 s74).bind (fun s82 => lb_chk (lb_ix x4 5) (if (s82 32 x4.toNatClampNeg) ≤ x6 then f_X8_label_46 n x1 x2 x4 x5 x6 (x7 + 1) s82 else lb_chk (lb_ix x4 5) (lb_let ((s82 32 x4.toNatClampNeg)) (fun v110 : Int32 => f_X8_label_46 n x1 x2 x4 x7 v110 (x7 + 1) s82)))))))
set_option maxRecDepth 20000 in
set_option maxHeartbeats 4000000 in
theorem w_X8_label_46 {p : Program} {l : Launch} {e : Env} {s : State} {m : MethodId} {args : Array Value} {below : List Frame} {meth : Method} {c : Code} {G : lb_G} {qr : (Int32 × lb_Mem)} (X : lb_C G p s m args meth c cX8_label 8 RX8 (some .int)) : ∀ (n : Nat) (x1 : Int32) (x2 : Int32) (x4 : Int32) (x5 : Int32) (x6 : Int32) (x7 : Int32) (σ : lb_Mem) (H : Heap) (locs : List Loc) (ls : Array Slot), f_X8_label_46 n x1 x2 x4 x5 x6 x7 σ = some qr → lb_W G s σ H locs → lv_has ls 8 [(0, .ref (lb_ad G 0)), (1, .int x1), (2, .int x2), (4, .int x4), (5, .int x5), (6, .int x6), (7, .int x7)] → W p l e rmX8_label s m args below meth c H locs 0 0 (MQ below (lb_QI G qr.1 qr.2) args s 0 0 (lb_A G)) (F0 m 46 ls []) := by
  have hx := X.1
  have hb := X.2.1
  intro n
  induction n with
  | zero => intro x1 x2 x4 x5 x6 x7 σ H locs ls h hW hl; exact absurd h (fun z => by cases z)
  | succ n ih =>
    intro x1 x2 x4 x5 x6 x7 σ H locs ls h hW hl
    have h : (if (6 : Int32) < x7 then some (x5, σ) else (f_X7_become 17 1 σ).bind (fun s61 => lb_chk (lb_ix x1 8) (lb_let (lb_sto s61 28 x1.toNatClampNeg x7) (fun s74 : lb_Mem => (f_X7_passFor 17 x4 x2 s74).bind (fun s82 => lb_chk (lb_ix x4 5) (if (s82 32 x4.toNatClampNeg) ≤ x6 then f_X8_label_46 n x1 x2 x4 x5 x6 (x7 + 1) s82 else lb_chk (lb_ix x4 5) (lb_let ((s82 32 x4.toNatClampNeg)) (fun v110 : Int32 => f_X8_label_46 n x1 x2 x4 x7 v110 (x7 + 1) s82)))))))) = some qr := h
    refine lv_iload hx hb dX8_label_46 (lv_at hl 6 rfl) ?_
    refine lv_bipush (v := 6) hx hb dX8_label_48 rfl ?_
    refine lv_icmp_gt (tgt := 122) hx hb dX8_label_50 (by decide) (fun c50 => ?_) (fun c50 => ?_)
    · have h := (if_pos c50).symm.trans h
      refine lv_iload hx hb dX8_label_122 (lv_at hl 4 rfl) ?_
      obtain rfl := Option.some.inj h
      exact lb_iret X hW dX8_label_124
    · have h := (if_neg c50).symm.trans h
      refine lv_aload_n hx hb dX8_label_53 rfl (lv_at hl 0 rfl) ?_
      refine rg_X8_16 X hW dX8_label_54 ?_
      refine lv_aload_n hx hb dX8_label_57 rfl (lv_at hl 0 rfl) ?_
      refine rg_X8_10 X hW dX8_label_58 ?_
      obtain ⟨s61, e61, h⟩ := lb_bind h
      refine rc_X8_67 X hW lb_V17 lb_V1 e61 ⟨⟨rfl, rfl⟩, Nat.le_of_ble_eq_true rfl, Nat.le_of_ble_eq_true rfl⟩ hl.1 (Nat.le_of_ble_eq_true rfl) dX8_label_61 ⟨Nat.zero_le _, Nat.zero_le _⟩ (fun H locs hW => ?_)
      refine lv_aload_n hx hb dX8_label_64 rfl (lv_at hl 0 rfl) ?_
      refine rg_X8_16 X hW dX8_label_65 ?_
      refine rg_X8_98 (k := 28) X hW lb_V17 rfl dX8_label_68 ?_
      refine lv_iload_n hx hb dX8_label_71 rfl (lv_at hl 1 rfl) ?_
      refine lv_iload hx hb dX8_label_72 (lv_at hl 6 rfl) ?_
      obtain ⟨i74, h⟩ := lb_chk_in h
      refine lb_ist X hW (show lb_ar 28 = 7 + 1 from rfl) i74 dX8_label_74 (fun H locs hW => ?_)
      obtain ⟨s74, e74⟩ : ∃ z, z = lb_sto s61 28 x1.toNatClampNeg x7 := ⟨_, rfl⟩
      rw [← e74] at hW
      have h := lb_letI e74 h
      refine lv_aload_n hx hb dX8_label_75 rfl (lv_at hl 0 rfl) ?_
      refine rg_X8_16 X hW dX8_label_76 ?_
      refine lv_iload hx hb dX8_label_79 (lv_at hl 3 rfl) ?_
      refine lv_iload_n hx hb dX8_label_81 rfl (lv_at hl 2 rfl) ?_
      obtain ⟨s82, e82, h⟩ := lb_bind h
      refine rc_X8_146 X hW lb_V17 e82 ⟨⟨rfl, rfl⟩, Nat.le_of_ble_eq_true rfl, Nat.le_of_ble_eq_true rfl⟩ hl.1 (Nat.le_of_ble_eq_true rfl) dX8_label_82 ⟨Nat.zero_le _, Nat.zero_le _⟩ (fun H locs hW => ?_)
      refine lv_aload_n hx hb dX8_label_85 rfl (lv_at hl 0 rfl) ?_
      refine rg_X8_16 X hW dX8_label_86 ?_
      refine rg_X8_113 (k := 32) X hW lb_V17 rfl dX8_label_89 ?_
      refine lv_iload hx hb dX8_label_92 (lv_at hl 3 rfl) ?_
      obtain ⟨i94, h⟩ := lb_chk_in h
      refine lb_ild X hW (show lb_ar 32 = 4 + 1 from rfl) i94 dX8_label_94 ?_
      refine lv_iload hx hb dX8_label_95 (lv_at hl 5 rfl) ?_
      refine lv_icmp_le (tgt := 116) hx hb dX8_label_97 (by decide) (fun c97 => ?_) (fun c97 => ?_)
      · have h := (if_pos c97).symm.trans h
        refine lv_iinc (v := (x7 + 1)) (lv' := [(7, .int (x7 + 1)), (0, .ref (lb_ad G 0)), (1, .int x1), (2, .int x2), (4, .int x4), (5, .int x5), (6, .int x6)]) hx hb dX8_label_116 hl (k := 6) rfl rfl (by decide) rfl (fun ls hl => ?_)
        refine lv_goto (tgt := 46) hx hb dX8_label_119 (by decide) ?_
        exact ih x1 x2 x4 x5 x6 (x7 + 1) s82 _ _ _ h hW (lv_sub hl [1, 2, 3, 4, 5, 6, 0] rfl)
      · have h := (if_neg c97).symm.trans h
        refine lv_aload_n hx hb dX8_label_100 rfl (lv_at hl 0 rfl) ?_
        refine rg_X8_16 X hW dX8_label_101 ?_
        refine rg_X8_113 (k := 32) X hW lb_V17 rfl dX8_label_104 ?_
        refine lv_iload hx hb dX8_label_107 (lv_at hl 3 rfl) ?_
        obtain ⟨i109, h⟩ := lb_chk_in h
        refine lb_ild X hW (show lb_ar 32 = 4 + 1 from rfl) i109 dX8_label_109 ?_
        refine lv_topi (fun v110 e110 => ?_)
        have h := lb_letI e110 h
        refine lv_istore (lv' := [(6, .int v110), (0, .ref (lb_ad G 0)), (1, .int x1), (2, .int x2), (4, .int x4), (5, .int x5), (7, .int x7)]) hx hb dX8_label_110 hl (by decide) rfl (fun ls hl => ?_)
        refine lv_iload hx hb dX8_label_112 (lv_at hl 6 rfl) ?_
        refine lv_istore (lv' := [(5, .int x7), (6, .int v110), (0, .ref (lb_ad G 0)), (1, .int x1), (2, .int x2), (4, .int x4), (7, .int x7)]) hx hb dX8_label_114 hl (by decide) rfl (fun ls hl => ?_)
        refine lv_iinc (v := (x7 + 1)) (lv' := [(7, .int (x7 + 1)), (5, .int x7), (6, .int v110), (0, .ref (lb_ad G 0)), (1, .int x1), (2, .int x2), (4, .int x4)]) hx hb dX8_label_116 hl (k := 6) rfl rfl (by decide) rfl (fun ls hl => ?_)
        refine lv_goto (tgt := 46) hx hb dX8_label_119 (by decide) ?_
        exact ih x1 x2 x4 x7 v110 (x7 + 1) s82 _ _ _ h hW (lv_sub hl [3, 4, 5, 6, 1, 2, 0] rfl)
def f_X8_label (x1 : Int32) (x2 : Int32) (σ : lb_Mem) : Option (Int32 × lb_Mem) := lb_let ((f_X8_first (f_X8_potThere σ x1) (f_X8_within x2 (0 : Int32) (30 : Int32)))) (fun v15 : Int32 => if v15 = 0 then lb_chk (lb_ix x1 8) (lb_let ((σ 14 x1.toNatClampNeg)) (fun v35 : Int32 => f_X8_label_46 lb_N x1 x2 v35 (0 : Int32) (-1 : Int32) (0 : Int32) σ)) else (f_X8_refuse v15 σ).bind (fun q22 => some (q22.1, q22.2)))
set_option maxRecDepth 20000 in
set_option maxHeartbeats 4000000 in
theorem m_X8_label (l : Launch) (G : lb_G) (σ : lb_Mem) (x1 : Int32) (x2 : Int32) (qr : (Int32 × lb_Mem)) (h : f_X8_label x1 x2 σ = some qr) : lb_M l yX8_label cX8_label 8 (some .int) rmX8_label [.ref (lb_ad G 0), .int x1, .int x2] G σ (lb_QI G qr.1 qr.2) := by
  refine lb_start RX8 (by decide +kernel) rfl (Nat.le_of_ble_eq_true rfl) (fun p e s m below meth c X hW ls hl => ?_)
  have hx := X.1
  have hb := X.2.1
  have hl : lv_has ls 8 [(0, .ref (lb_ad G 0)), (1, .int x1), (2, .int x2)] := hl
  have h : (lb_let ((f_X8_first (f_X8_potThere σ x1) (f_X8_within x2 (0 : Int32) (30 : Int32)))) (fun v15 : Int32 => if v15 = 0 then lb_chk (lb_ix x1 8) (lb_let ((σ 14 x1.toNatClampNeg)) (fun v35 : Int32 => f_X8_label_46 lb_N x1 x2 v35 (0 : Int32) (-1 : Int32) (0 : Int32) σ)) else (f_X8_refuse v15 σ).bind (fun q22 => some (q22.1, q22.2)))) = some qr := h
  skip
  refine lv_aload_n hx hb dX8_label_0 rfl (lv_at hl 0 rfl) ?_
  refine lv_iload_n hx hb dX8_label_1 rfl (lv_at hl 1 rfl) ?_
  refine rc_X8_83 X hW x1 ⟨⟨rfl, rfl⟩, Nat.le_of_ble_eq_true rfl, Nat.le_of_ble_eq_true rfl⟩ hl.1 (Nat.le_of_ble_eq_true rfl) dX8_label_2 ⟨Nat.zero_le _, Nat.zero_le _⟩ (fun H locs hW => ?_)
  refine lv_iload_n hx hb dX8_label_5 rfl (lv_at hl 2 rfl) ?_
  refine lv_iconst (v := 0) hx hb dX8_label_6 rfl ?_
  refine lv_bipush (v := 30) hx hb dX8_label_7 rfl ?_
  refine rc_X8_44 X hW x2 (0 : Int32) (30 : Int32) ⟨⟨rfl, rfl⟩, Nat.le_of_ble_eq_true rfl, Nat.le_of_ble_eq_true rfl⟩ hl.1 (Nat.le_of_ble_eq_true rfl) dX8_label_9 ⟨Nat.zero_le _, Nat.zero_le _⟩ (fun H locs hW => ?_)
  refine rc_X8_51 X hW (f_X8_potThere σ x1) (f_X8_within x2 (0 : Int32) (30 : Int32)) ⟨⟨rfl, rfl⟩, Nat.le_of_ble_eq_true rfl, Nat.le_of_ble_eq_true rfl⟩ hl.1 (Nat.le_of_ble_eq_true rfl) dX8_label_12 ⟨Nat.zero_le _, Nat.zero_le _⟩ (fun H locs hW => ?_)
  refine lv_topi (fun v15 e15 => ?_)
  have h := lb_letI e15 h
  refine lv_istore_n (lv' := [(3, .int v15), (0, .ref (lb_ad G 0)), (1, .int x1), (2, .int x2)]) hx hb dX8_label_15 rfl hl (by decide) rfl (fun ls hl => ?_)
  refine lv_iload_n hx hb dX8_label_16 rfl (lv_at hl 0 rfl) ?_
  refine lv_if_eq (tgt := 26) hx hb dX8_label_17 (by decide) (fun c17 => ?_) (fun c17 => ?_)
  · have h := (if_pos c17).symm.trans h
    refine lv_aload_n hx hb dX8_label_26 rfl (lv_at hl 1 rfl) ?_
    refine rg_X8_10 X hW dX8_label_27 ?_
    refine rg_X8_104 (k := 14) X hW lb_V1 rfl dX8_label_30 ?_
    refine lv_iload_n hx hb dX8_label_33 rfl (lv_at hl 2 rfl) ?_
    obtain ⟨i34, h⟩ := lb_chk_in h
    refine lb_ild X hW (show lb_ar 14 = 7 + 1 from rfl) i34 dX8_label_34 ?_
    refine lv_topi (fun v35 e35 => ?_)
    have h := lb_letI e35 h
    refine lv_istore (lv' := [(4, .int v35), (3, .int v15), (0, .ref (lb_ad G 0)), (1, .int x1), (2, .int x2)]) hx hb dX8_label_35 hl (by decide) rfl (fun ls hl => ?_)
    refine lv_iconst (v := 0) hx hb dX8_label_37 rfl ?_
    refine lv_istore (lv' := [(5, .int (0 : Int32)), (4, .int v35), (3, .int v15), (0, .ref (lb_ad G 0)), (1, .int x1), (2, .int x2)]) hx hb dX8_label_38 hl (by decide) rfl (fun ls hl => ?_)
    refine lv_iconst (v := -1) hx hb dX8_label_40 rfl ?_
    refine lv_istore (lv' := [(6, .int (-1 : Int32)), (5, .int (0 : Int32)), (4, .int v35), (3, .int v15), (0, .ref (lb_ad G 0)), (1, .int x1), (2, .int x2)]) hx hb dX8_label_41 hl (by decide) rfl (fun ls hl => ?_)
    refine lv_iconst (v := 0) hx hb dX8_label_43 rfl ?_
    refine lv_istore (lv' := [(7, .int (0 : Int32)), (6, .int (-1 : Int32)), (5, .int (0 : Int32)), (4, .int v35), (3, .int v15), (0, .ref (lb_ad G 0)), (1, .int x1), (2, .int x2)]) hx hb dX8_label_44 hl (by decide) rfl (fun ls hl => ?_)
    exact w_X8_label_46 X lb_N x1 x2 v35 (0 : Int32) (-1 : Int32) (0 : Int32) σ _ _ _ h hW (lv_sub hl [5, 6, 7, 3, 2, 1, 0] rfl)
  · have h := (if_neg c17).symm.trans h
    refine lv_aload_n hx hb dX8_label_20 rfl (lv_at hl 1 rfl) ?_
    refine lv_iload_n hx hb dX8_label_21 rfl (lv_at hl 0 rfl) ?_
    obtain ⟨q22, e22, h⟩ := lb_bind h
    refine rc_X8_55 X hW e22 ⟨⟨rfl, rfl⟩, Nat.le_of_ble_eq_true rfl, Nat.le_of_ble_eq_true rfl⟩ hl.1 (Nat.le_of_ble_eq_true rfl) dX8_label_22 ⟨Nat.zero_le _, Nat.zero_le _⟩ (fun H locs hW => ?_)
    obtain rfl := Option.some.inj h
    exact lb_iret X hW dX8_label_25
