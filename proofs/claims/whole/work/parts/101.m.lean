abbrev rmX7_setLikes : Room := { frames := 1, cells := 0, slots := 0, locals := 21 }
def f_X7_setLikes (b0 : Nat) (x1 : Int32) (x2 : Int32) (σ : lb_Mem) : Option (Int32 × lb_Mem) := if (f_X7_hasPerson σ b0 x1) = 0 then some ((0 : Int32), σ) else if (f_X7_isSort x2) = 0 then some ((0 : Int32), σ) else lb_chk (lb_ix x1 5) (lb_let (lb_sto σ (b0 + 14) x1.toNatClampNeg x2) (fun s23 : lb_Mem => some ((1 : Int32), s23)))
set_option maxRecDepth 20000 in
set_option maxHeartbeats 4000000 in
theorem m_X7_setLikes (l : Launch) (G : lb_G) (σ : lb_Mem) {b0 : Nat} (hb0 : lb_V b0) (x1 : Int32) (x2 : Int32) (qr : (Int32 × lb_Mem)) (h : f_X7_setLikes b0 x1 x2 σ = some qr) : lb_M l yX7_setLikes cX7_setLikes 3 (some .boolean) rmX7_setLikes [.ref (lb_ad G b0), .int x1, .int x2] G σ (lb_QI G qr.1 qr.2) := by
  refine lb_start RX7 (by decide +kernel) rfl (Nat.le_of_ble_eq_true rfl) (fun p e s m below meth c X hW ls hl => ?_)
  have hx := X.1
  have hb := X.2.1
  have hl : lv_has ls 3 [(0, .ref (lb_ad G b0)), (1, .int x1), (2, .int x2)] := hl
  have h : (if (f_X7_hasPerson σ b0 x1) = 0 then some ((0 : Int32), σ) else if (f_X7_isSort x2) = 0 then some ((0 : Int32), σ) else lb_chk (lb_ix x1 5) (lb_let (lb_sto σ (b0 + 14) x1.toNatClampNeg x2) (fun s23 : lb_Mem => some ((1 : Int32), s23)))) = some qr := h
  skip
  refine lv_aload_n hx hb dX7_setLikes_0 rfl (lv_at hl 0 rfl) ?_
  refine lv_iload_n hx hb dX7_setLikes_1 rfl (lv_at hl 1 rfl) ?_
  refine rc_X7_124 X hW hb0 x1 ⟨⟨rfl, rfl⟩, Nat.le_of_ble_eq_true rfl, Nat.le_of_ble_eq_true rfl⟩ hl.1 (Nat.le_of_ble_eq_true rfl) dX7_setLikes_2 ⟨Nat.zero_le _, Nat.zero_le _⟩ (fun H locs hW => ?_)
  refine lv_if_eq (tgt := 15) hx hb dX7_setLikes_5 (by decide) (fun c5 => ?_) (fun c5 => ?_)
  · have h := (if_pos c5).symm.trans h
    refine lv_iconst (v := 0) hx hb dX7_setLikes_15 rfl ?_
    obtain rfl := Option.some.inj h
    exact lb_zret X hW (Or.inl rfl) dX7_setLikes_16
  · have h := (if_neg c5).symm.trans h
    refine lv_iload_n hx hb dX7_setLikes_8 rfl (lv_at hl 2 rfl) ?_
    refine rc_X7_74 X hW x2 ⟨⟨rfl, rfl⟩, Nat.le_of_ble_eq_true rfl, Nat.le_of_ble_eq_true rfl⟩ hl.1 (Nat.le_of_ble_eq_true rfl) dX7_setLikes_9 ⟨Nat.zero_le _, Nat.zero_le _⟩ (fun H locs hW => ?_)
    refine lv_if_ne (tgt := 17) hx hb dX7_setLikes_12 (by decide) (fun c12 => ?_) (fun c12 => ?_)
    · have h := (if_neg c12).symm.trans h
      refine lv_aload_n hx hb dX7_setLikes_17 rfl (lv_at hl 0 rfl) ?_
      refine rg_X7_52 (k := (b0 + 14)) X hW hb0 rfl dX7_setLikes_18 ?_
      refine lv_iload_n hx hb dX7_setLikes_21 rfl (lv_at hl 1 rfl) ?_
      refine lv_iload_n hx hb dX7_setLikes_22 rfl (lv_at hl 2 rfl) ?_
      obtain ⟨i23, h⟩ := lb_chk_in h
      refine lb_ist X hW (lb_Var14 hb0) i23 dX7_setLikes_23 (fun H locs hW => ?_)
      obtain ⟨s23, e23⟩ : ∃ z, z = lb_sto σ (b0 + 14) x1.toNatClampNeg x2 := ⟨_, rfl⟩
      rw [← e23] at hW
      have h := lb_letI e23 h
      refine lv_iconst (v := 1) hx hb dX7_setLikes_24 rfl ?_
      obtain rfl := Option.some.inj h
      exact lb_zret X hW (Or.inr rfl) dX7_setLikes_25
    · have h := (if_pos c12).symm.trans h
      refine lv_iconst (v := 0) hx hb dX7_setLikes_15 rfl ?_
      obtain rfl := Option.some.inj h
      exact lb_zret X hW (Or.inl rfl) dX7_setLikes_16
abbrev rmX7_setFull : Room := { frames := 1, cells := 0, slots := 0, locals := 21 }
def f_X7_setFull (b0 : Nat) (x1 : Int32) (x2 : Int32) (σ : lb_Mem) : Option (Int32 × lb_Mem) := if (f_X7_hasPot σ b0 x1) = 0 then some ((0 : Int32), σ) else if (f_X7_isDigit x2) = 0 then some ((0 : Int32), σ) else lb_chk (lb_ix x1 8) (lb_let (lb_sto σ (b0 + 12) x1.toNatClampNeg x2) (fun s23 : lb_Mem => some ((1 : Int32), s23)))
set_option maxRecDepth 20000 in
set_option maxHeartbeats 4000000 in
theorem m_X7_setFull (l : Launch) (G : lb_G) (σ : lb_Mem) {b0 : Nat} (hb0 : lb_V b0) (x1 : Int32) (x2 : Int32) (qr : (Int32 × lb_Mem)) (h : f_X7_setFull b0 x1 x2 σ = some qr) : lb_M l yX7_setFull cX7_setFull 3 (some .boolean) rmX7_setFull [.ref (lb_ad G b0), .int x1, .int x2] G σ (lb_QI G qr.1 qr.2) := by
  refine lb_start RX7 (by decide +kernel) rfl (Nat.le_of_ble_eq_true rfl) (fun p e s m below meth c X hW ls hl => ?_)
  have hx := X.1
  have hb := X.2.1
  have hl : lv_has ls 3 [(0, .ref (lb_ad G b0)), (1, .int x1), (2, .int x2)] := hl
  have h : (if (f_X7_hasPot σ b0 x1) = 0 then some ((0 : Int32), σ) else if (f_X7_isDigit x2) = 0 then some ((0 : Int32), σ) else lb_chk (lb_ix x1 8) (lb_let (lb_sto σ (b0 + 12) x1.toNatClampNeg x2) (fun s23 : lb_Mem => some ((1 : Int32), s23)))) = some qr := h
  skip
  refine lv_aload_n hx hb dX7_setFull_0 rfl (lv_at hl 0 rfl) ?_
  refine lv_iload_n hx hb dX7_setFull_1 rfl (lv_at hl 1 rfl) ?_
  refine rc_X7_127 X hW hb0 x1 ⟨⟨rfl, rfl⟩, Nat.le_of_ble_eq_true rfl, Nat.le_of_ble_eq_true rfl⟩ hl.1 (Nat.le_of_ble_eq_true rfl) dX7_setFull_2 ⟨Nat.zero_le _, Nat.zero_le _⟩ (fun H locs hW => ?_)
  refine lv_if_eq (tgt := 15) hx hb dX7_setFull_5 (by decide) (fun c5 => ?_) (fun c5 => ?_)
  · have h := (if_pos c5).symm.trans h
    refine lv_iconst (v := 0) hx hb dX7_setFull_15 rfl ?_
    obtain rfl := Option.some.inj h
    exact lb_zret X hW (Or.inl rfl) dX7_setFull_16
  · have h := (if_neg c5).symm.trans h
    refine lv_iload_n hx hb dX7_setFull_8 rfl (lv_at hl 2 rfl) ?_
    refine rc_X7_118 X hW x2 ⟨⟨rfl, rfl⟩, Nat.le_of_ble_eq_true rfl, Nat.le_of_ble_eq_true rfl⟩ hl.1 (Nat.le_of_ble_eq_true rfl) dX7_setFull_9 ⟨Nat.zero_le _, Nat.zero_le _⟩ (fun H locs hW => ?_)
    refine lv_if_ne (tgt := 17) hx hb dX7_setFull_12 (by decide) (fun c12 => ?_) (fun c12 => ?_)
    · have h := (if_neg c12).symm.trans h
      refine lv_aload_n hx hb dX7_setFull_17 rfl (lv_at hl 0 rfl) ?_
      refine rg_X7_46 (k := (b0 + 12)) X hW hb0 rfl dX7_setFull_18 ?_
      refine lv_iload_n hx hb dX7_setFull_21 rfl (lv_at hl 1 rfl) ?_
      refine lv_iload_n hx hb dX7_setFull_22 rfl (lv_at hl 2 rfl) ?_
      obtain ⟨i23, h⟩ := lb_chk_in h
      refine lb_ist X hW (lb_Var12 hb0) i23 dX7_setFull_23 (fun H locs hW => ?_)
      obtain ⟨s23, e23⟩ : ∃ z, z = lb_sto σ (b0 + 12) x1.toNatClampNeg x2 := ⟨_, rfl⟩
      rw [← e23] at hW
      have h := lb_letI e23 h
      refine lv_iconst (v := 1) hx hb dX7_setFull_24 rfl ?_
      obtain rfl := Option.some.inj h
      exact lb_zret X hW (Or.inr rfl) dX7_setFull_25
    · have h := (if_pos c12).symm.trans h
      refine lv_iconst (v := 0) hx hb dX7_setFull_15 rfl ?_
      obtain rfl := Option.some.inj h
      exact lb_zret X hW (Or.inl rfl) dX7_setFull_16
abbrev rmX7_canGoOn : Room := { frames := 0, cells := 0, slots := 0, locals := 0 }
def f_X7_canGoOn (σ : lb_Mem) (b0 : Nat) (x1 : Int32) : Int32 := if x1 < (1 : Int32) then (0 : Int32) else if (60 : Int32) < x1 then (0 : Int32) else if ((999 : Int32) - x1) < (σ b0 11) then (0 : Int32) else (1 : Int32)
theorem zb_X7_canGoOn (σ : lb_Mem) (b0 : Nat) (x1 : Int32) : f_X7_canGoOn σ b0 x1 = 0 ∨ f_X7_canGoOn σ b0 x1 = 1 := by
  unfold f_X7_canGoOn
  (repeat' split) <;> first | exact Or.inl rfl | exact Or.inr rfl | exact Or.inl rfl
set_option maxRecDepth 20000 in
set_option maxHeartbeats 4000000 in
theorem m_X7_canGoOn (l : Launch) (G : lb_G) (σ : lb_Mem) {b0 : Nat} (hb0 : lb_V b0) (x1 : Int32) (qr : Int32) (h : f_X7_canGoOn σ b0 x1 = qr) : lb_M l yX7_canGoOn cX7_canGoOn 2 (some .boolean) rmX7_canGoOn [.ref (lb_ad G b0), .int x1] G σ (lb_QI G qr σ) := by
  refine lb_start RX7 (by decide +kernel) rfl (Nat.le_of_ble_eq_true rfl) (fun p e s m below meth c X hW ls hl => ?_)
  have hx := X.1
  have hb := X.2.1
  have hl : lv_has ls 2 [(0, .ref (lb_ad G b0)), (1, .int x1)] := hl
  have h : (if x1 < (1 : Int32) then (0 : Int32) else if (60 : Int32) < x1 then (0 : Int32) else if ((999 : Int32) - x1) < (σ b0 11) then (0 : Int32) else (1 : Int32)) = qr := h
  skip
  refine lv_iload_n hx hb dX7_canGoOn_0 rfl (lv_at hl 1 rfl) ?_
  refine lv_iconst (v := 1) hx hb dX7_canGoOn_1 rfl ?_
  refine lv_icmp_lt (tgt := 27) hx hb dX7_canGoOn_2 (by decide) (fun c2 => ?_) (fun c2 => ?_)
  · have h := (if_pos c2).symm.trans h
    refine lv_iconst (v := 0) hx hb dX7_canGoOn_27 rfl ?_
    subst h
    exact lb_zret X hW (Or.inl rfl) dX7_canGoOn_28
  · have h := (if_neg c2).symm.trans h
    refine lv_iload_n hx hb dX7_canGoOn_5 rfl (lv_at hl 1 rfl) ?_
    refine lv_bipush (v := 60) hx hb dX7_canGoOn_6 rfl ?_
    refine lv_icmp_gt (tgt := 27) hx hb dX7_canGoOn_8 (by decide) (fun c8 => ?_) (fun c8 => ?_)
    · have h := (if_pos c8).symm.trans h
      refine lv_iconst (v := 0) hx hb dX7_canGoOn_27 rfl ?_
      subst h
      exact lb_zret X hW (Or.inl rfl) dX7_canGoOn_28
    · have h := (if_neg c8).symm.trans h
      refine lv_aload_n hx hb dX7_canGoOn_11 rfl (lv_at hl 0 rfl) ?_
      refine rg_X7_65 X hW hb0 dX7_canGoOn_12 ?_
      refine lv_sipush (v := 999) hx hb dX7_canGoOn_15 rfl ?_
      refine lv_iload_n hx hb dX7_canGoOn_18 rfl (lv_at hl 1 rfl) ?_
      refine lv_isub hx hb dX7_canGoOn_19 ?_
      refine lv_icmp_gt (tgt := 27) hx hb dX7_canGoOn_20 (by decide) (fun c20 => ?_) (fun c20 => ?_)
      · have h := (if_pos c20).symm.trans h
        refine lv_iconst (v := 0) hx hb dX7_canGoOn_27 rfl ?_
        subst h
        exact lb_zret X hW (Or.inl rfl) dX7_canGoOn_28
      · have h := (if_neg c20).symm.trans h
        refine lv_iconst (v := 1) hx hb dX7_canGoOn_23 rfl ?_
        refine lv_goto (tgt := 28) hx hb dX7_canGoOn_24 (by decide) ?_
        subst h
        exact lb_zret X hW (Or.inr rfl) dX7_canGoOn_28
abbrev rmX7_canOpen : Room := { frames := 0, cells := 0, slots := 0, locals := 0 }
def f_X7_canOpen (σ : lb_Mem) (b0 : Nat) (x1 : Int32) (x2 : Int32) : Option Int32 := lb_chk (lb_ix x2 8) (if (σ (b0 + 13) x2.toNatClampNeg) = x1 then lb_chk (lb_ix x2 8) (if (σ (b0 + 12) x2.toNatClampNeg) ≤ 0 then some (0 : Int32) else some (1 : Int32)) else some (0 : Int32))
set_option maxRecDepth 20000 in
set_option maxHeartbeats 4000000 in
theorem m_X7_canOpen (l : Launch) (G : lb_G) (σ : lb_Mem) {b0 : Nat} (hb0 : lb_V b0) (x1 : Int32) (x2 : Int32) (qr : Int32) (h : f_X7_canOpen σ b0 x1 x2 = some qr) : lb_M l yX7_canOpen cX7_canOpen 3 (some .boolean) rmX7_canOpen [.ref (lb_ad G b0), .int x1, .int x2] G σ (lb_QI G qr σ) := by
  refine lb_start RX7 (by decide +kernel) rfl (Nat.le_of_ble_eq_true rfl) (fun p e s m below meth c X hW ls hl => ?_)
  have hx := X.1
  have hb := X.2.1
  have hl : lv_has ls 3 [(0, .ref (lb_ad G b0)), (1, .int x1), (2, .int x2)] := hl
  have h : (lb_chk (lb_ix x2 8) (if (σ (b0 + 13) x2.toNatClampNeg) = x1 then lb_chk (lb_ix x2 8) (if (σ (b0 + 12) x2.toNatClampNeg) ≤ 0 then some (0 : Int32) else some (1 : Int32)) else some (0 : Int32))) = some qr := h
  skip
  refine lv_aload_n hx hb dX7_canOpen_0 rfl (lv_at hl 0 rfl) ?_
  refine rg_X7_49 (k := (b0 + 13)) X hW hb0 rfl dX7_canOpen_1 ?_
  refine lv_iload_n hx hb dX7_canOpen_4 rfl (lv_at hl 2 rfl) ?_
  obtain ⟨i5, h⟩ := lb_chk_in h
  refine lb_ild X hW (lb_Var13 hb0) i5 dX7_canOpen_5 ?_
  refine lv_iload_n hx hb dX7_canOpen_6 rfl (lv_at hl 1 rfl) ?_
  refine lv_icmp_ne (tgt := 23) hx hb dX7_canOpen_7 (by decide) (fun c7 => ?_) (fun c7 => ?_)
  · have h := (if_neg c7).symm.trans h
    refine lv_iconst (v := 0) hx hb dX7_canOpen_23 rfl ?_
    obtain rfl := Option.some.inj h
    exact lb_zret X hW (Or.inl rfl) dX7_canOpen_24
  · have h := (if_pos c7).symm.trans h
    refine lv_aload_n hx hb dX7_canOpen_10 rfl (lv_at hl 0 rfl) ?_
    refine rg_X7_46 (k := (b0 + 12)) X hW hb0 rfl dX7_canOpen_11 ?_
    refine lv_iload_n hx hb dX7_canOpen_14 rfl (lv_at hl 2 rfl) ?_
    obtain ⟨i15, h⟩ := lb_chk_in h
    refine lb_ild X hW (lb_Var12 hb0) i15 dX7_canOpen_15 ?_
    refine lv_if_le (tgt := 23) hx hb dX7_canOpen_16 (by decide) (fun c16 => ?_) (fun c16 => ?_)
    · have h := (if_pos c16).symm.trans h
      refine lv_iconst (v := 0) hx hb dX7_canOpen_23 rfl ?_
      obtain rfl := Option.some.inj h
      exact lb_zret X hW (Or.inl rfl) dX7_canOpen_24
    · have h := (if_neg c16).symm.trans h
      refine lv_iconst (v := 1) hx hb dX7_canOpen_19 rfl ?_
      refine lv_goto (tgt := 24) hx hb dX7_canOpen_20 (by decide) ?_
      obtain rfl := Option.some.inj h
      exact lb_zret X hW (Or.inr rfl) dX7_canOpen_24
abbrev rmX7_off : Room := { frames := 1, cells := 0, slots := 0, locals := 15 }
def f_X7_off (x0 : Int32) (x1 : Int32) : Int32 := lb_let ((if 0 ≤ (x0 - x1) then (x0 - x1) else 0 - (x0 - x1))) (fun v6 : Int32 => (if ((6 : Int32) - v6) < v6 then ((6 : Int32) - v6) else v6))
set_option maxRecDepth 20000 in
set_option maxHeartbeats 4000000 in
theorem m_X7_off (l : Launch) (G : lb_G) (σ : lb_Mem) (x0 : Int32) (x1 : Int32) (qr : Int32) (h : f_X7_off x0 x1 = qr) : lb_M l yX7_off cX7_off 3 (some .int) rmX7_off [.int x0, .int x1] G σ (lb_QI G qr σ) := by
  refine lb_start RX7 (by decide +kernel) rfl (Nat.le_of_ble_eq_true rfl) (fun p e s m below meth c X hW ls hl => ?_)
  have hx := X.1
  have hb := X.2.1
  have hl : lv_has ls 3 [(0, .int x0), (1, .int x1)] := hl
  have h : (lb_let ((if 0 ≤ (x0 - x1) then (x0 - x1) else 0 - (x0 - x1))) (fun v6 : Int32 => (if ((6 : Int32) - v6) < v6 then ((6 : Int32) - v6) else v6))) = qr := h
  skip
  refine lv_iload_n hx hb dX7_off_0 rfl (lv_at hl 0 rfl) ?_
  refine lv_iload_n hx hb dX7_off_1 rfl (lv_at hl 1 rfl) ?_
  refine lv_isub hx hb dX7_off_2 ?_
  refine va_mabs hx hb (by rw [X.2.2.1]; exact hl.1.symm) X.2.2.2.1 (X.2.2.2.2.1 _ qw_418) (X.2.2.2.2.1 _ qw_419) (X.2.2.2.2.1 _ qw_55) (X.2.2.2.2.1 _ qw_420) (Nat.le_of_ble_eq_true rfl) (Nat.le_of_ble_eq_true rfl) (Nat.zero_le _) (Nat.zero_le _) dX7_off_3 ?_
  refine lv_topi (fun v6 e6 => ?_)
  have h := lb_letI e6 h
  refine lv_istore_n (lv' := [(2, .int v6), (0, .int x0), (1, .int x1)]) hx hb dX7_off_6 rfl hl (by decide) rfl (fun ls hl => ?_)
  refine lv_iload_n hx hb dX7_off_7 rfl (lv_at hl 0 rfl) ?_
  refine lv_bipush (v := 6) hx hb dX7_off_8 rfl ?_
  refine lv_iload_n hx hb dX7_off_10 rfl (lv_at hl 0 rfl) ?_
  refine lv_isub hx hb dX7_off_11 ?_
  refine va_mmin hx hb (by rw [X.2.2.1]; exact hl.1.symm) X.2.2.2.1 (X.2.2.2.2.1 _ qw_421) (X.2.2.2.2.1 _ qw_281) (X.2.2.2.2.1 _ qw_55) (X.2.2.2.2.1 _ qw_282) (Nat.le_of_ble_eq_true rfl) (Nat.le_of_ble_eq_true rfl) (Nat.zero_le _) (Nat.zero_le _) dX7_off_12 ?_
  subst h
  exact lb_iret X hW dX7_off_15
theorem rc_X7_95 {p : Program} {l : Launch} {e : Env} {R : Room} {s : State} {m : MethodId} {args : Array Value} {below : List Frame} {meth : Method} {c : Code} {H : Heap} {locs : List Loc} {cells slots : Nat} {Q : State → Prop} {cc : ByteArray} {pc nL : Nat} {ls : Array Slot} {rest : List Value} {G : lb_G} {σ : lb_Mem} {ret : Option FieldType} (X : lb_C G p s m args meth c cc nL RX7 ret) (hW : lb_W G s σ H locs) {b0 : Nat} (hb0 : lb_V b0) {x1 : Int32} {x2 : Int32} {qr : Int32} (h : f_X7_canOpen σ b0 x1 x2 = some qr) (hR : lb_room rmX7_canOpen R 3) (hls : ls.size = nL) (hrest : (rest.map fun v => v.category).sum ≤ 8) (d : decode cc pc = .ok (.invokevirtual 95, 3)) (hcap : cells ≤ R.cells ∧ slots ≤ R.slots) (kk : ∀ (H1 : Heap) (locs1 : List Loc), lb_W G s σ H1 locs1 → W p l e R s m args below meth c H1 locs1 cells slots Q (F0 m (pc + 3) ls (.int qr :: rest))) : W p l e R s m args below meth c H locs cells slots Q (F0 m pc ls (.int x2 :: .int x1 :: .ref (lb_ad G b0) :: rest)) :=
  lb_goI hW (lb_runV (As := [.int x1, .int x2]) X hW (m_X7_canOpen l G σ hb0 x1 x2 qr h) (n := 2) ⟨qw_411, qw_44, qw_414, by decide +kernel⟩ hR qw_412 qw_413 (lb_isV hb0) rfl hls hrest d hcap) kk
theorem rc_X7_88 {p : Program} {l : Launch} {e : Env} {R : Room} {s : State} {m : MethodId} {args : Array Value} {below : List Frame} {meth : Method} {c : Code} {H : Heap} {locs : List Loc} {cells slots : Nat} {Q : State → Prop} {cc : ByteArray} {pc nL : Nat} {ls : Array Slot} {rest : List Value} {G : lb_G} {σ : lb_Mem} {ret : Option FieldType} (X : lb_C G p s m args meth c cc nL RX7 ret) (hW : lb_W G s σ H locs) (x0 : Int32) (x1 : Int32) (hR : lb_room rmX7_off R 3) (hls : ls.size = nL) (hrest : (rest.map fun v => v.category).sum ≤ 8) (d : decode cc pc = .ok (.invokestatic 88, 3)) (hcap : cells ≤ R.cells ∧ slots ≤ R.slots) (kk : ∀ (H1 : Heap) (locs1 : List Loc), lb_W G s σ H1 locs1 → W p l e R s m args below meth c H1 locs1 cells slots Q (F0 m (pc + 3) ls (.int (f_X7_off x0 x1) :: rest))) : W p l e R s m args below meth c H locs cells slots Q (F0 m pc ls (.int x1 :: .int x0 :: rest)) :=
  lb_goI hW (lb_runS (As := [.int x0, .int x1]) X hW (m_X7_off l G σ x0 x1 _ rfl) (n := 2) ⟨qw_415, qw_44, qw_417, by decide +kernel⟩ hR qw_416 rfl hls hrest d hcap) kk
abbrev rmX7_opened : Room := { frames := 2, cells := 0, slots := 0, locals := 37 }
def f_X7_opened_60 (σ : lb_Mem) (b0 : Nat) (kc9 : Int32 → Int32 → Int32 → Int32 → Option Int32) (x1 : Int32) (x2 : Int32) (x3 : Int32) (x4 : Int32) (y0 : Int32) : Option Int32 := if x3 ≤ y0 then kc9 x1 x2 x3 (x4 + 1) else kc9 x1 x4 y0 (x4 + 1)
set_option maxRecDepth 20000 in
set_option maxHeartbeats 4000000 in
theorem w_X7_opened_60 {p : Program} {l : Launch} {e : Env} {s : State} {m : MethodId} {args : Array Value} {below : List Frame} {meth : Method} {c : Code} {G : lb_G} {σ : lb_Mem} {b0 : Nat} {qr : Int32} (X : lb_C G p s m args meth c cX7_opened 6 RX7 (some .int)) (hb0 : lb_V b0) {kc9 : Int32 → Int32 → Int32 → Int32 → Option Int32} (hc9 : ∀ (x1 : Int32) (x2 : Int32) (x3 : Int32) (x4 : Int32) (H : Heap) (locs : List Loc) (ls : Array Slot), kc9 x1 x2 x3 x4 = some qr → lb_W G s σ H locs → lv_has ls 6 [(0, .ref (lb_ad G b0)), (1, .int x1), (2, .int x2), (3, .int x3), (4, .int x4)] → W p l e rmX7_opened s m args below meth c H locs 0 0 (MQ below (lb_QI G qr σ) args s 0 0 (lb_A G)) (F0 m 9 ls [])) : ∀ (x1 : Int32) (x2 : Int32) (x3 : Int32) (x4 : Int32) (y0 : Int32) (H : Heap) (locs : List Loc) (ls : Array Slot), f_X7_opened_60 σ b0 kc9 x1 x2 x3 x4 y0 = some qr → lb_W G s σ H locs → lv_has ls 6 [(0, .ref (lb_ad G b0)), (1, .int x1), (2, .int x2), (3, .int x3), (4, .int x4)] → W p l e rmX7_opened s m args below meth c H locs 0 0 (MQ below (lb_QI G qr σ) args s 0 0 (lb_A G)) (F0 m 60 ls [.int y0]) := by
  have hx := X.1
  have hb := X.2.1
  intro x1 x2 x3 x4 y0 H locs ls h hW hl
  have h : (if x3 ≤ y0 then kc9 x1 x2 x3 (x4 + 1) else kc9 x1 x4 y0 (x4 + 1)) = some qr := h
  refine lv_istore (lv' := [(5, .int y0), (0, .ref (lb_ad G b0)), (1, .int x1), (2, .int x2), (3, .int x3), (4, .int x4)]) hx hb dX7_opened_60 hl (by decide) rfl (fun ls hl => ?_)
  refine lv_iload hx hb dX7_opened_62 (lv_at hl 0 rfl) ?_
  refine lv_iload_n hx hb dX7_opened_64 rfl (lv_at hl 4 rfl) ?_
  refine lv_icmp_ge (tgt := 74) hx hb dX7_opened_65 (by decide) (fun c65 => ?_) (fun c65 => ?_)
  · have h := (if_pos c65).symm.trans h
    refine lv_iinc (v := (x4 + 1)) (lv' := [(4, .int (x4 + 1)), (5, .int y0), (0, .ref (lb_ad G b0)), (1, .int x1), (2, .int x2), (3, .int x3)]) hx hb dX7_opened_74 hl (k := 5) rfl rfl (by decide) rfl (fun ls hl => ?_)
    refine lv_goto (tgt := 9) hx hb dX7_opened_77 (by decide) ?_
    exact hc9 x1 x2 x3 (x4 + 1) _ _ _ h hW (lv_sub hl [2, 3, 4, 5, 0] rfl)
  · have h := (if_neg c65).symm.trans h
    refine lv_iload hx hb dX7_opened_68 (lv_at hl 0 rfl) ?_
    refine lv_istore_n (lv' := [(3, .int y0), (5, .int y0), (0, .ref (lb_ad G b0)), (1, .int x1), (2, .int x2), (4, .int x4)]) hx hb dX7_opened_70 rfl hl (by decide) rfl (fun ls hl => ?_)
    refine lv_iload hx hb dX7_opened_71 (lv_at hl 5 rfl) ?_
    refine lv_istore_n (lv' := [(2, .int x4), (3, .int y0), (5, .int y0), (0, .ref (lb_ad G b0)), (1, .int x1), (4, .int x4)]) hx hb dX7_opened_73 rfl hl (by decide) rfl (fun ls hl => ?_)
    refine lv_iinc (v := (x4 + 1)) (lv' := [(4, .int (x4 + 1)), (2, .int x4), (3, .int y0), (5, .int y0), (0, .ref (lb_ad G b0)), (1, .int x1)]) hx hb dX7_opened_74 hl (k := 5) rfl rfl (by decide) rfl (fun ls hl => ?_)
    refine lv_goto (tgt := 9) hx hb dX7_opened_77 (by decide) ?_
    exact hc9 x1 x4 y0 (x4 + 1) _ _ _ h hW (lv_sub hl [4, 5, 1, 2, 0] rfl)
def f_X7_opened_9 (σ : lb_Mem) (b0 : Nat) : Nat → Int32 → Int32 → Int32 → Int32 → Option Int32
  | 0, _, _, _, _ => none
  | n + 1, x1, x2, x3, x4 => if (σ b0 9) ≤ x4 then some x2 else (f_X7_canOpen σ b0 x1 x4).bind (fun q22 => if q22 = 0 then f_X7_opened_9 σ b0 n x1 x2 x3 (x4 + 1) else lb_chk (lb_ix x4 8) (if (σ (b0 + 11) x4.toNatClampNeg) = (6 : Int32) then f_X7_opened_60 σ b0 (fun (x1 : Int32) (x2 : Int32) (x3 : Int32) (x4 : Int32) => f_X7_opened_9 σ b0 n x1 x2 x3 x4) x1 x2 x3 x4 (2 : Int32) else lb_chk (lb_ix x4 8) (lb_chk (lb_ix x1 5) (f_X7_opened_60 σ b0 (fun (x1 : Int32) (x2 : Int32) (x3 : Int32) (x4 : Int32) => f_X7_opened_9 σ b0 n x1 x2 x3 x4) x1 x2 x3 x4 (f_X7_off (σ (b0 + 11) x4.toNatClampNeg) (σ (b0 + 14) x1.toNatClampNeg))))))
set_option maxRecDepth 20000 in
set_option maxHeartbeats 4000000 in
theorem w_X7_opened_9 {p : Program} {l : Launch} {e : Env} {s : State} {m : MethodId} {args : Array Value} {below : List Frame} {meth : Method} {c : Code} {G : lb_G} {σ : lb_Mem} {b0 : Nat} {qr : Int32} (X : lb_C G p s m args meth c cX7_opened 6 RX7 (some .int)) (hb0 : lb_V b0) : ∀ (n : Nat) (x1 : Int32) (x2 : Int32) (x3 : Int32) (x4 : Int32) (H : Heap) (locs : List Loc) (ls : Array Slot), f_X7_opened_9 σ b0 n x1 x2 x3 x4 = some qr → lb_W G s σ H locs → lv_has ls 6 [(0, .ref (lb_ad G b0)), (1, .int x1), (2, .int x2), (3, .int x3), (4, .int x4)] → W p l e rmX7_opened s m args below meth c H locs 0 0 (MQ below (lb_QI G qr σ) args s 0 0 (lb_A G)) (F0 m 9 ls []) := by
  have hx := X.1
  have hb := X.2.1
  intro n
  induction n with
  | zero => intro x1 x2 x3 x4 H locs ls h hW hl; exact absurd h (fun z => by cases z)
  | succ n ih =>
    intro x1 x2 x3 x4 H locs ls h hW hl
    have h : (if (σ b0 9) ≤ x4 then some x2 else (f_X7_canOpen σ b0 x1 x4).bind (fun q22 => if q22 = 0 then f_X7_opened_9 σ b0 n x1 x2 x3 (x4 + 1) else lb_chk (lb_ix x4 8) (if (σ (b0 + 11) x4.toNatClampNeg) = (6 : Int32) then f_X7_opened_60 σ b0 (fun (x1 : Int32) (x2 : Int32) (x3 : Int32) (x4 : Int32) => f_X7_opened_9 σ b0 n x1 x2 x3 x4) x1 x2 x3 x4 (2 : Int32) else lb_chk (lb_ix x4 8) (lb_chk (lb_ix x1 5) (f_X7_opened_60 σ b0 (fun (x1 : Int32) (x2 : Int32) (x3 : Int32) (x4 : Int32) => f_X7_opened_9 σ b0 n x1 x2 x3 x4) x1 x2 x3 x4 (f_X7_off (σ (b0 + 11) x4.toNatClampNeg) (σ (b0 + 14) x1.toNatClampNeg))))))) = some qr := h
    refine lv_iload hx hb dX7_opened_9 (lv_at hl 4 rfl) ?_
    refine lv_aload_n hx hb dX7_opened_11 rfl (lv_at hl 0 rfl) ?_
    refine rg_X7_58 X hW hb0 dX7_opened_12 ?_
    refine lv_icmp_ge (tgt := 80) hx hb dX7_opened_15 (by decide) (fun c15 => ?_) (fun c15 => ?_)
    · have h := (if_pos c15).symm.trans h
      refine lv_iload_n hx hb dX7_opened_80 rfl (lv_at hl 2 rfl) ?_
      obtain rfl := Option.some.inj h
      exact lb_iret X hW dX7_opened_81
    · have h := (if_neg c15).symm.trans h
      refine lv_aload_n hx hb dX7_opened_18 rfl (lv_at hl 0 rfl) ?_
      refine lv_iload_n hx hb dX7_opened_19 rfl (lv_at hl 1 rfl) ?_
      refine lv_iload hx hb dX7_opened_20 (lv_at hl 4 rfl) ?_
      obtain ⟨q22, e22, h⟩ := lb_bind h
      refine rc_X7_95 X hW hb0 e22 ⟨⟨rfl, rfl⟩, Nat.le_of_ble_eq_true rfl, Nat.le_of_ble_eq_true rfl⟩ hl.1 (Nat.le_of_ble_eq_true rfl) dX7_opened_22 ⟨Nat.zero_le _, Nat.zero_le _⟩ (fun H locs hW => ?_)
      refine lv_if_eq (tgt := 74) hx hb dX7_opened_25 (by decide) (fun c25 => ?_) (fun c25 => ?_)
      · have h := (if_pos c25).symm.trans h
        refine lv_iinc (v := (x4 + 1)) (lv' := [(4, .int (x4 + 1)), (0, .ref (lb_ad G b0)), (1, .int x1), (2, .int x2), (3, .int x3)]) hx hb dX7_opened_74 hl (k := 4) rfl rfl (by decide) rfl (fun ls hl => ?_)
        refine lv_goto (tgt := 9) hx hb dX7_opened_77 (by decide) ?_
        exact ih x1 x2 x3 (x4 + 1) _ _ _ h hW (lv_sub hl [1, 2, 3, 4, 0] rfl)
      · have h := (if_neg c25).symm.trans h
        refine lv_aload_n hx hb dX7_opened_28 rfl (lv_at hl 0 rfl) ?_
        refine rg_X7_43 (k := (b0 + 11)) X hW hb0 rfl dX7_opened_29 ?_
        refine lv_iload hx hb dX7_opened_32 (lv_at hl 4 rfl) ?_
        obtain ⟨i34, h⟩ := lb_chk_in h
        refine lb_ild X hW (lb_Var11 hb0) i34 dX7_opened_34 ?_
        refine lv_bipush (v := 6) hx hb dX7_opened_35 rfl ?_
        refine lv_icmp_ne (tgt := 44) hx hb dX7_opened_37 (by decide) (fun c37 => ?_) (fun c37 => ?_)
        · have h := (if_neg c37).symm.trans h
          refine lv_aload_n hx hb dX7_opened_44 rfl (lv_at hl 0 rfl) ?_
          refine rg_X7_43 (k := (b0 + 11)) X hW hb0 rfl dX7_opened_45 ?_
          refine lv_iload hx hb dX7_opened_48 (lv_at hl 4 rfl) ?_
          obtain ⟨i50, h⟩ := lb_chk_in h
          refine lb_ild X hW (lb_Var11 hb0) i50 dX7_opened_50 ?_
          refine lv_aload_n hx hb dX7_opened_51 rfl (lv_at hl 0 rfl) ?_
          refine rg_X7_52 (k := (b0 + 14)) X hW hb0 rfl dX7_opened_52 ?_
          refine lv_iload_n hx hb dX7_opened_55 rfl (lv_at hl 1 rfl) ?_
          obtain ⟨i56, h⟩ := lb_chk_in h
          refine lb_ild X hW (lb_Var14 hb0) i56 dX7_opened_56 ?_
          refine rc_X7_88 X hW (σ (b0 + 11) x4.toNatClampNeg) (σ (b0 + 14) x1.toNatClampNeg) ⟨⟨rfl, rfl⟩, Nat.le_of_ble_eq_true rfl, Nat.le_of_ble_eq_true rfl⟩ hl.1 (Nat.le_of_ble_eq_true rfl) dX7_opened_57 ⟨Nat.zero_le _, Nat.zero_le _⟩ (fun H locs hW => ?_)
          exact w_X7_opened_60 X hb0 ih x1 x2 x3 x4 (f_X7_off (σ (b0 + 11) x4.toNatClampNeg) (σ (b0 + 14) x1.toNatClampNeg)) _ _ _ h hW (lv_sub hl [0, 1, 2, 3, 4] rfl)
        · have h := (if_pos c37).symm.trans h
          refine lv_iconst (v := 2) hx hb dX7_opened_40 rfl ?_
          refine lv_goto (tgt := 60) hx hb dX7_opened_41 (by decide) ?_
          exact w_X7_opened_60 X hb0 ih x1 x2 x3 x4 (2 : Int32) _ _ _ h hW (lv_sub hl [0, 1, 2, 3, 4] rfl)
def f_X7_opened (σ : lb_Mem) (b0 : Nat) (x1 : Int32) : Option Int32 := f_X7_opened_9 σ b0 lb_N x1 (-9 : Int32) (6 : Int32) (0 : Int32)
set_option maxRecDepth 20000 in
set_option maxHeartbeats 4000000 in
theorem m_X7_opened (l : Launch) (G : lb_G) (σ : lb_Mem) {b0 : Nat} (hb0 : lb_V b0) (x1 : Int32) (qr : Int32) (h : f_X7_opened σ b0 x1 = some qr) : lb_M l yX7_opened cX7_opened 6 (some .int) rmX7_opened [.ref (lb_ad G b0), .int x1] G σ (lb_QI G qr σ) := by
  refine lb_start RX7 (by decide +kernel) rfl (Nat.le_of_ble_eq_true rfl) (fun p e s m below meth c X hW ls hl => ?_)
  have hx := X.1
  have hb := X.2.1
  have hl : lv_has ls 6 [(0, .ref (lb_ad G b0)), (1, .int x1)] := hl
  have h : (f_X7_opened_9 σ b0 lb_N x1 (-9 : Int32) (6 : Int32) (0 : Int32)) = some qr := h
  skip
  refine lv_bipush (v := -9) hx hb dX7_opened_0 rfl ?_
  refine lv_istore_n (lv' := [(2, .int (-9 : Int32)), (0, .ref (lb_ad G b0)), (1, .int x1)]) hx hb dX7_opened_2 rfl hl (by decide) rfl (fun ls hl => ?_)
  refine lv_bipush (v := 6) hx hb dX7_opened_3 rfl ?_
  refine lv_istore_n (lv' := [(3, .int (6 : Int32)), (2, .int (-9 : Int32)), (0, .ref (lb_ad G b0)), (1, .int x1)]) hx hb dX7_opened_5 rfl hl (by decide) rfl (fun ls hl => ?_)
  refine lv_iconst (v := 0) hx hb dX7_opened_6 rfl ?_
  refine lv_istore (lv' := [(4, .int (0 : Int32)), (3, .int (6 : Int32)), (2, .int (-9 : Int32)), (0, .ref (lb_ad G b0)), (1, .int x1)]) hx hb dX7_opened_7 hl (by decide) rfl (fun ls hl => ?_)
  exact w_X7_opened_9 X hb0 lb_N x1 (-9 : Int32) (6 : Int32) (0 : Int32) _ _ _ h hW (lv_sub hl [3, 4, 2, 1, 0] rfl)
abbrev rmX7_gained : Room := { frames := 3, cells := 0, slots := 0, locals := 70 }
def f_X7_gained_30 (σ : lb_Mem) (b0 : Nat) (x1 : Int32) (x2 : Int32) (y0 : Int32) : Option Int32 := lb_chk (lb_ix x1 8) (lb_chk (lb_ix x2 5) (lb_let ((f_X7_off (σ (b0 + 10) x1.toNatClampNeg) (σ (b0 + 14) x2.toNatClampNeg))) (fun v46 : Int32 => lb_chk (lb_ix x1 8) (lb_chk (lb_ix (σ (b0 + 8) x1.toNatClampNeg) 6) (lb_chk (lb_ix x1 8) (some (lb_spoon (σ (b0 + 8) x1.toNatClampNeg) (σ (b0 + 9) x1.toNatClampNeg) y0 v46)))))))
set_option maxRecDepth 20000 in
set_option maxHeartbeats 4000000 in
theorem w_X7_gained_30 {p : Program} {l : Launch} {e : Env} {s : State} {m : MethodId} {args : Array Value} {below : List Frame} {meth : Method} {c : Code} {G : lb_G} {σ : lb_Mem} {b0 : Nat} {qr : Int32} (X : lb_C G p s m args meth c cX7_gained 5 RX7 (some .int)) (hb0 : lb_V b0) : ∀ (x1 : Int32) (x2 : Int32) (y0 : Int32) (H : Heap) (locs : List Loc) (ls : Array Slot), f_X7_gained_30 σ b0 x1 x2 y0 = some qr → lb_W G s σ H locs → lv_has ls 5 [(0, .ref (lb_ad G b0)), (1, .int x1), (2, .int x2)] → W p l e rmX7_gained s m args below meth c H locs 0 0 (MQ below (lb_QI G qr σ) args s 0 0 (lb_A G)) (F0 m 30 ls [.int y0]) := by
  have hx := X.1
  have hb := X.2.1
  intro x1 x2 y0 H locs ls h hW hl
  have h : (lb_chk (lb_ix x1 8) (lb_chk (lb_ix x2 5) (lb_let ((f_X7_off (σ (b0 + 10) x1.toNatClampNeg) (σ (b0 + 14) x2.toNatClampNeg))) (fun v46 : Int32 => lb_chk (lb_ix x1 8) (lb_chk (lb_ix (σ (b0 + 8) x1.toNatClampNeg) 6) (lb_chk (lb_ix x1 8) (some (lb_spoon (σ (b0 + 8) x1.toNatClampNeg) (σ (b0 + 9) x1.toNatClampNeg) y0 v46)))))))) = some qr := h
  refine lv_istore_n (lv' := [(3, .int y0), (0, .ref (lb_ad G b0)), (1, .int x1), (2, .int x2)]) hx hb dX7_gained_30 rfl hl (by decide) rfl (fun ls hl => ?_)
  refine lv_aload_n hx hb dX7_gained_31 rfl (lv_at hl 1 rfl) ?_
  refine rg_X7_40 (k := (b0 + 10)) X hW hb0 rfl dX7_gained_32 ?_
  refine lv_iload_n hx hb dX7_gained_35 rfl (lv_at hl 2 rfl) ?_
  obtain ⟨i36, h⟩ := lb_chk_in h
  refine lb_ild X hW (lb_Var10 hb0) i36 dX7_gained_36 ?_
  refine lv_aload_n hx hb dX7_gained_37 rfl (lv_at hl 1 rfl) ?_
  refine rg_X7_52 (k := (b0 + 14)) X hW hb0 rfl dX7_gained_38 ?_
  refine lv_iload_n hx hb dX7_gained_41 rfl (lv_at hl 3 rfl) ?_
  obtain ⟨i42, h⟩ := lb_chk_in h
  refine lb_ild X hW (lb_Var14 hb0) i42 dX7_gained_42 ?_
  refine rc_X7_88 X hW (σ (b0 + 10) x1.toNatClampNeg) (σ (b0 + 14) x2.toNatClampNeg) ⟨⟨rfl, rfl⟩, Nat.le_of_ble_eq_true rfl, Nat.le_of_ble_eq_true rfl⟩ hl.1 (Nat.le_of_ble_eq_true rfl) dX7_gained_43 ⟨Nat.zero_le _, Nat.zero_le _⟩ (fun H locs hW => ?_)
  refine lv_topi (fun v46 e46 => ?_)
  have h := lb_letI e46 h
  refine lv_istore (lv' := [(4, .int v46), (3, .int y0), (0, .ref (lb_ad G b0)), (1, .int x1), (2, .int x2)]) hx hb dX7_gained_46 hl (by decide) rfl (fun ls hl => ?_)
  refine lv_aload_n hx hb dX7_gained_48 rfl (lv_at hl 2 rfl) ?_
  refine rg_X7_27 (k := (b0 + 1)) X hW hb0 rfl dX7_gained_49 ?_
  refine lv_aload_n hx hb dX7_gained_52 rfl (lv_at hl 2 rfl) ?_
  refine rg_X7_33 (k := (b0 + 8)) X hW hb0 rfl dX7_gained_53 ?_
  refine lv_iload_n hx hb dX7_gained_56 rfl (lv_at hl 3 rfl) ?_
  obtain ⟨i57, h⟩ := lb_chk_in h
  refine lb_ild X hW (lb_Var8 hb0) i57 dX7_gained_57 ?_
  obtain ⟨i58, h⟩ := lb_chk_in h
  refine lb_ald X hW hb0 i58 dX7_gained_58 ?_
  refine lv_aload_n hx hb dX7_gained_59 rfl (lv_at hl 2 rfl) ?_
  refine rg_X7_37 (k := (b0 + 9)) X hW hb0 rfl dX7_gained_60 ?_
  refine lv_iload_n hx hb dX7_gained_63 rfl (lv_at hl 3 rfl) ?_
  obtain ⟨i64, h⟩ := lb_chk_in h
  refine lb_ild X hW (lb_Var9 hb0) i64 dX7_gained_64 ?_
  refine lv_iload_n hx hb dX7_gained_65 rfl (lv_at hl 1 rfl) ?_
  refine lv_iload hx hb dX7_gained_66 (lv_at hl 0 rfl) ?_
  refine lb_spoonR X hW hb0 i58 (σ (b0 + 9) x1.toNatClampNeg) y0 v46 (Nat.le_of_ble_eq_true rfl) (Nat.le_of_ble_eq_true rfl) hl.1 (Nat.le_of_ble_eq_true rfl) qw_426 dX7_gained_68 ⟨Nat.zero_le _, Nat.zero_le _⟩ (fun H locs hW => ?_)
  obtain rfl := Option.some.inj h
  exact lb_iret X hW dX7_gained_71
def f_X7_gained (σ : lb_Mem) (b0 : Nat) (x1 : Int32) (x2 : Int32) : Option Int32 := lb_chk (lb_ix x1 8) (if (σ (b0 + 11) x1.toNatClampNeg) = (6 : Int32) then f_X7_gained_30 σ b0 x1 x2 (1 : Int32) else lb_chk (lb_ix x1 8) (lb_chk (lb_ix x1 8) (f_X7_gained_30 σ b0 x1 x2 (f_X7_off (σ (b0 + 10) x1.toNatClampNeg) (σ (b0 + 11) x1.toNatClampNeg)))))
set_option maxRecDepth 20000 in
set_option maxHeartbeats 4000000 in
theorem m_X7_gained (l : Launch) (G : lb_G) (σ : lb_Mem) {b0 : Nat} (hb0 : lb_V b0) (x1 : Int32) (x2 : Int32) (qr : Int32) (h : f_X7_gained σ b0 x1 x2 = some qr) : lb_M l yX7_gained cX7_gained 5 (some .int) rmX7_gained [.ref (lb_ad G b0), .int x1, .int x2] G σ (lb_QI G qr σ) := by
  refine lb_start RX7 (by decide +kernel) rfl (Nat.le_of_ble_eq_true rfl) (fun p e s m below meth c X hW ls hl => ?_)
  have hx := X.1
  have hb := X.2.1
  have hl : lv_has ls 5 [(0, .ref (lb_ad G b0)), (1, .int x1), (2, .int x2)] := hl
  have h : (lb_chk (lb_ix x1 8) (if (σ (b0 + 11) x1.toNatClampNeg) = (6 : Int32) then f_X7_gained_30 σ b0 x1 x2 (1 : Int32) else lb_chk (lb_ix x1 8) (lb_chk (lb_ix x1 8) (f_X7_gained_30 σ b0 x1 x2 (f_X7_off (σ (b0 + 10) x1.toNatClampNeg) (σ (b0 + 11) x1.toNatClampNeg)))))) = some qr := h
  skip
  refine lv_aload_n hx hb dX7_gained_0 rfl (lv_at hl 0 rfl) ?_
  refine rg_X7_43 (k := (b0 + 11)) X hW hb0 rfl dX7_gained_1 ?_
  refine lv_iload_n hx hb dX7_gained_4 rfl (lv_at hl 1 rfl) ?_
  obtain ⟨i5, h⟩ := lb_chk_in h
  refine lb_ild X hW (lb_Var11 hb0) i5 dX7_gained_5 ?_
  refine lv_bipush (v := 6) hx hb dX7_gained_6 rfl ?_
  refine lv_icmp_ne (tgt := 15) hx hb dX7_gained_8 (by decide) (fun c8 => ?_) (fun c8 => ?_)
  · have h := (if_neg c8).symm.trans h
    refine lv_aload_n hx hb dX7_gained_15 rfl (lv_at hl 0 rfl) ?_
    refine rg_X7_40 (k := (b0 + 10)) X hW hb0 rfl dX7_gained_16 ?_
    refine lv_iload_n hx hb dX7_gained_19 rfl (lv_at hl 1 rfl) ?_
    obtain ⟨i20, h⟩ := lb_chk_in h
    refine lb_ild X hW (lb_Var10 hb0) i20 dX7_gained_20 ?_
    refine lv_aload_n hx hb dX7_gained_21 rfl (lv_at hl 0 rfl) ?_
    refine rg_X7_43 (k := (b0 + 11)) X hW hb0 rfl dX7_gained_22 ?_
    refine lv_iload_n hx hb dX7_gained_25 rfl (lv_at hl 1 rfl) ?_
    obtain ⟨i26, h⟩ := lb_chk_in h
    refine lb_ild X hW (lb_Var11 hb0) i26 dX7_gained_26 ?_
    refine rc_X7_88 X hW (σ (b0 + 10) x1.toNatClampNeg) (σ (b0 + 11) x1.toNatClampNeg) ⟨⟨rfl, rfl⟩, Nat.le_of_ble_eq_true rfl, Nat.le_of_ble_eq_true rfl⟩ hl.1 (Nat.le_of_ble_eq_true rfl) dX7_gained_27 ⟨Nat.zero_le _, Nat.zero_le _⟩ (fun H locs hW => ?_)
    exact w_X7_gained_30 X hb0 x1 x2 (f_X7_off (σ (b0 + 10) x1.toNatClampNeg) (σ (b0 + 11) x1.toNatClampNeg)) _ _ _ h hW (lv_sub hl [0, 1, 2] rfl)
  · have h := (if_pos c8).symm.trans h
    refine lv_iconst (v := 1) hx hb dX7_gained_11 rfl ?_
    refine lv_goto (tgt := 30) hx hb dX7_gained_12 (by decide) ?_
    exact w_X7_gained_30 X hb0 x1 x2 (1 : Int32) _ _ _ h hW (lv_sub hl [0, 1, 2] rfl)
theorem rc_X7_103 {p : Program} {l : Launch} {e : Env} {R : Room} {s : State} {m : MethodId} {args : Array Value} {below : List Frame} {meth : Method} {c : Code} {H : Heap} {locs : List Loc} {cells slots : Nat} {Q : State → Prop} {cc : ByteArray} {pc nL : Nat} {ls : Array Slot} {rest : List Value} {G : lb_G} {σ : lb_Mem} {ret : Option FieldType} (X : lb_C G p s m args meth c cc nL RX7 ret) (hW : lb_W G s σ H locs) {b0 : Nat} (hb0 : lb_V b0) {x1 : Int32} {qr : Int32} (h : f_X7_opened σ b0 x1 = some qr) (hR : lb_room rmX7_opened R 6) (hls : ls.size = nL) (hrest : (rest.map fun v => v.category).sum ≤ 8) (d : decode cc pc = .ok (.invokevirtual 103, 3)) (hcap : cells ≤ R.cells ∧ slots ≤ R.slots) (kk : ∀ (H1 : Heap) (locs1 : List Loc), lb_W G s σ H1 locs1 → W p l e R s m args below meth c H1 locs1 cells slots Q (F0 m (pc + 3) ls (.int qr :: rest))) : W p l e R s m args below meth c H locs cells slots Q (F0 m pc ls (.int x1 :: .ref (lb_ad G b0) :: rest)) :=
  lb_goI hW (lb_runV (As := [.int x1]) X hW (m_X7_opened l G σ hb0 x1 qr h) (n := 1) ⟨qw_407, qw_44, qw_410, by decide +kernel⟩ hR qw_408 qw_409 (lb_isV hb0) rfl hls hrest d hcap) kk
theorem rc_X7_106 {p : Program} {l : Launch} {e : Env} {R : Room} {s : State} {m : MethodId} {args : Array Value} {below : List Frame} {meth : Method} {c : Code} {H : Heap} {locs : List Loc} {cells slots : Nat} {Q : State → Prop} {cc : ByteArray} {pc nL : Nat} {ls : Array Slot} {rest : List Value} {G : lb_G} {σ : lb_Mem} {ret : Option FieldType} (X : lb_C G p s m args meth c cc nL RX7 ret) (hW : lb_W G s σ H locs) {b0 : Nat} (hb0 : lb_V b0) {x1 : Int32} {x2 : Int32} {qr : Int32} (h : f_X7_gained σ b0 x1 x2 = some qr) (hR : lb_room rmX7_gained R 5) (hls : ls.size = nL) (hrest : (rest.map fun v => v.category).sum ≤ 8) (d : decode cc pc = .ok (.invokevirtual 106, 3)) (hcap : cells ≤ R.cells ∧ slots ≤ R.slots) (kk : ∀ (H1 : Heap) (locs1 : List Loc), lb_W G s σ H1 locs1 → W p l e R s m args below meth c H1 locs1 cells slots Q (F0 m (pc + 3) ls (.int qr :: rest))) : W p l e R s m args below meth c H locs cells slots Q (F0 m pc ls (.int x2 :: .int x1 :: .ref (lb_ad G b0) :: rest)) :=
  lb_goI hW (lb_runV (As := [.int x1, .int x2]) X hW (m_X7_gained l G σ hb0 x1 x2 qr h) (n := 2) ⟨qw_422, qw_44, qw_425, by decide +kernel⟩ hR qw_423 qw_424 (lb_isV hb0) rfl hls hrest d hcap) kk
abbrev rmX7_passFor : Room := { frames := 4, cells := 0, slots := 0, locals := 94 }
def f_X7_passFor_44 (b0 : Nat) (kc2 : Int32 → Int32 → Int32 → lb_Mem → Option lb_Mem) (x1 : Int32) (x2 : Int32) (x3 : Int32) (x5 : Int32) (σ : lb_Mem) : Option lb_Mem := lb_chk (lb_ix x1 5) (lb_chk (lb_ix x1 5) (lb_let (lb_sto σ (b0 + 15) x1.toNatClampNeg (if (0 : Int32) < (if ((σ (b0 + 15) x1.toNatClampNeg) + x5) < (99 : Int32) then ((σ (b0 + 15) x1.toNatClampNeg) + x5) else (99 : Int32)) then (if ((σ (b0 + 15) x1.toNatClampNeg) + x5) < (99 : Int32) then ((σ (b0 + 15) x1.toNatClampNeg) + x5) else (99 : Int32)) else (0 : Int32))) (fun s67 : lb_Mem => kc2 x1 x2 (x3 + 1) s67)))
set_option maxRecDepth 20000 in
set_option maxHeartbeats 4000000 in
theorem w_X7_passFor_44 {p : Program} {l : Launch} {e : Env} {s : State} {m : MethodId} {args : Array Value} {below : List Frame} {meth : Method} {c : Code} {G : lb_G} {b0 : Nat} {qr : lb_Mem} (X : lb_C G p s m args meth c cX7_passFor 6 RX7 none) (hb0 : lb_V b0) {kc2 : Int32 → Int32 → Int32 → lb_Mem → Option lb_Mem} (hc2 : ∀ (x1 : Int32) (x2 : Int32) (x3 : Int32) (σ : lb_Mem) (H : Heap) (locs : List Loc) (ls : Array Slot), kc2 x1 x2 x3 σ = some qr → lb_W G s σ H locs → lv_has ls 6 [(0, .ref (lb_ad G b0)), (1, .int x1), (2, .int x2), (3, .int x3)] → W p l e rmX7_passFor s m args below meth c H locs 0 0 (MQ below (lb_QV G qr) args s 0 0 (lb_A G)) (F0 m 2 ls [])) : ∀ (x1 : Int32) (x2 : Int32) (x3 : Int32) (x5 : Int32) (σ : lb_Mem) (H : Heap) (locs : List Loc) (ls : Array Slot), f_X7_passFor_44 b0 kc2 x1 x2 x3 x5 σ = some qr → lb_W G s σ H locs → lv_has ls 6 [(0, .ref (lb_ad G b0)), (1, .int x1), (2, .int x2), (3, .int x3), (5, .int x5)] → W p l e rmX7_passFor s m args below meth c H locs 0 0 (MQ below (lb_QV G qr) args s 0 0 (lb_A G)) (F0 m 44 ls []) := by
  have hx := X.1
  have hb := X.2.1
  intro x1 x2 x3 x5 σ H locs ls h hW hl
  have h : (lb_chk (lb_ix x1 5) (lb_chk (lb_ix x1 5) (lb_let (lb_sto σ (b0 + 15) x1.toNatClampNeg (if (0 : Int32) < (if ((σ (b0 + 15) x1.toNatClampNeg) + x5) < (99 : Int32) then ((σ (b0 + 15) x1.toNatClampNeg) + x5) else (99 : Int32)) then (if ((σ (b0 + 15) x1.toNatClampNeg) + x5) < (99 : Int32) then ((σ (b0 + 15) x1.toNatClampNeg) + x5) else (99 : Int32)) else (0 : Int32))) (fun s67 : lb_Mem => kc2 x1 x2 (x3 + 1) s67)))) = some qr := h
  refine lv_aload_n hx hb dX7_passFor_44 rfl (lv_at hl 0 rfl) ?_
  refine rg_X7_55 (k := (b0 + 15)) X hW hb0 rfl dX7_passFor_45 ?_
  refine lv_iload_n hx hb dX7_passFor_48 rfl (lv_at hl 1 rfl) ?_
  refine lv_iconst (v := 0) hx hb dX7_passFor_49 rfl ?_
  refine lv_bipush (v := 99) hx hb dX7_passFor_50 rfl ?_
  refine lv_aload_n hx hb dX7_passFor_52 rfl (lv_at hl 0 rfl) ?_
  refine rg_X7_55 (k := (b0 + 15)) X hW hb0 rfl dX7_passFor_53 ?_
  refine lv_iload_n hx hb dX7_passFor_56 rfl (lv_at hl 1 rfl) ?_
  obtain ⟨i57, h⟩ := lb_chk_in h
  refine lb_ild X hW (lb_Var15 hb0) i57 dX7_passFor_57 ?_
  refine lv_iload hx hb dX7_passFor_58 (lv_at hl 4 rfl) ?_
  refine lv_iadd hx hb dX7_passFor_60 ?_
  refine va_mmin hx hb (by rw [X.2.2.1]; exact hl.1.symm) X.2.2.2.1 (X.2.2.2.2.1 _ qw_421) (X.2.2.2.2.1 _ qw_281) (X.2.2.2.2.1 _ qw_55) (X.2.2.2.2.1 _ qw_282) (Nat.le_of_ble_eq_true rfl) (Nat.le_of_ble_eq_true rfl) (Nat.zero_le _) (Nat.zero_le _) dX7_passFor_61 ?_
  refine va_mmax hx hb (by rw [X.2.2.1]; exact hl.1.symm) X.2.2.2.1 (X.2.2.2.2.1 _ qw_452) (X.2.2.2.2.1 _ qw_278) (X.2.2.2.2.1 _ qw_55) (X.2.2.2.2.1 _ qw_279) (Nat.le_of_ble_eq_true rfl) (Nat.le_of_ble_eq_true rfl) (Nat.zero_le _) (Nat.zero_le _) dX7_passFor_64 ?_
  obtain ⟨i67, h⟩ := lb_chk_in h
  refine lb_ist X hW (lb_Var15 hb0) i67 dX7_passFor_67 (fun H locs hW => ?_)
  obtain ⟨s67, e67⟩ : ∃ z, z = lb_sto σ (b0 + 15) x1.toNatClampNeg (if (0 : Int32) < (if ((σ (b0 + 15) x1.toNatClampNeg) + x5) < (99 : Int32) then ((σ (b0 + 15) x1.toNatClampNeg) + x5) else (99 : Int32)) then (if ((σ (b0 + 15) x1.toNatClampNeg) + x5) < (99 : Int32) then ((σ (b0 + 15) x1.toNatClampNeg) + x5) else (99 : Int32)) else (0 : Int32)) := ⟨_, rfl⟩
  rw [← e67] at hW
  have h := lb_letI e67 h
  refine lv_iinc (v := (x3 + 1)) (lv' := [(3, .int (x3 + 1)), (0, .ref (lb_ad G b0)), (1, .int x1), (2, .int x2), (5, .int x5)]) hx hb dX7_passFor_68 hl (k := 3) rfl rfl (by decide) rfl (fun ls hl => ?_)
  refine lv_goto (tgt := 2) hx hb dX7_passFor_71 (by decide) ?_
  exact hc2 x1 x2 (x3 + 1) s67 _ _ _ h hW (lv_sub hl [1, 2, 3, 0] rfl)
def f_X7_passFor_2 (b0 : Nat) : Nat → Int32 → Int32 → Int32 → lb_Mem → Option lb_Mem
  | 0, _, _, _, _ => none
  | n + 1, x1, x2, x3, σ => if x2 ≤ x3 then some σ else (f_X7_opened σ b0 x1).bind (fun q9 => if q9 = (-9 : Int32) then f_X7_passFor_44 b0 (fun (x1 : Int32) (x2 : Int32) (x3 : Int32) (σ : lb_Mem) => f_X7_passFor_2 b0 n x1 x2 x3 σ) x1 x2 x3 (-1 : Int32) σ else (f_X7_gained σ b0 q9 x1).bind (fun q28 => lb_chk (lb_ix q9 8) (lb_chk (lb_ix q9 8) (lb_let (lb_sto σ (b0 + 12) q9.toNatClampNeg ((σ (b0 + 12) q9.toNatClampNeg) - (1 : Int32))) (fun s43 : lb_Mem => f_X7_passFor_44 b0 (fun (x1 : Int32) (x2 : Int32) (x3 : Int32) (σ : lb_Mem) => f_X7_passFor_2 b0 n x1 x2 x3 σ) x1 x2 x3 q28 s43)))))
set_option maxRecDepth 20000 in
set_option maxHeartbeats 4000000 in
theorem w_X7_passFor_2 {p : Program} {l : Launch} {e : Env} {s : State} {m : MethodId} {args : Array Value} {below : List Frame} {meth : Method} {c : Code} {G : lb_G} {b0 : Nat} {qr : lb_Mem} (X : lb_C G p s m args meth c cX7_passFor 6 RX7 none) (hb0 : lb_V b0) : ∀ (n : Nat) (x1 : Int32) (x2 : Int32) (x3 : Int32) (σ : lb_Mem) (H : Heap) (locs : List Loc) (ls : Array Slot), f_X7_passFor_2 b0 n x1 x2 x3 σ = some qr → lb_W G s σ H locs → lv_has ls 6 [(0, .ref (lb_ad G b0)), (1, .int x1), (2, .int x2), (3, .int x3)] → W p l e rmX7_passFor s m args below meth c H locs 0 0 (MQ below (lb_QV G qr) args s 0 0 (lb_A G)) (F0 m 2 ls []) := by
  have hx := X.1
  have hb := X.2.1
  intro n
  induction n with
  | zero => intro x1 x2 x3 σ H locs ls h hW hl; exact absurd h (fun z => by cases z)
  | succ n ih =>
    intro x1 x2 x3 σ H locs ls h hW hl
    have h : (if x2 ≤ x3 then some σ else (f_X7_opened σ b0 x1).bind (fun q9 => if q9 = (-9 : Int32) then f_X7_passFor_44 b0 (fun (x1 : Int32) (x2 : Int32) (x3 : Int32) (σ : lb_Mem) => f_X7_passFor_2 b0 n x1 x2 x3 σ) x1 x2 x3 (-1 : Int32) σ else (f_X7_gained σ b0 q9 x1).bind (fun q28 => lb_chk (lb_ix q9 8) (lb_chk (lb_ix q9 8) (lb_let (lb_sto σ (b0 + 12) q9.toNatClampNeg ((σ (b0 + 12) q9.toNatClampNeg) - (1 : Int32))) (fun s43 : lb_Mem => f_X7_passFor_44 b0 (fun (x1 : Int32) (x2 : Int32) (x3 : Int32) (σ : lb_Mem) => f_X7_passFor_2 b0 n x1 x2 x3 σ) x1 x2 x3 q28 s43)))))) = some qr := h
    refine lv_iload_n hx hb dX7_passFor_2 rfl (lv_at hl 3 rfl) ?_
    refine lv_iload_n hx hb dX7_passFor_3 rfl (lv_at hl 2 rfl) ?_
    refine lv_icmp_ge (tgt := 74) hx hb dX7_passFor_4 (by decide) (fun c4 => ?_) (fun c4 => ?_)
    · have h := (if_pos c4).symm.trans h
      obtain rfl := Option.some.inj h
      exact lb_vret X hW dX7_passFor_74
    · have h := (if_neg c4).symm.trans h
      refine lv_aload_n hx hb dX7_passFor_7 rfl (lv_at hl 0 rfl) ?_
      refine lv_iload_n hx hb dX7_passFor_8 rfl (lv_at hl 1 rfl) ?_
      obtain ⟨q9, e9, h⟩ := lb_bind h
      refine rc_X7_103 X hW hb0 e9 ⟨⟨rfl, rfl⟩, Nat.le_of_ble_eq_true rfl, Nat.le_of_ble_eq_true rfl⟩ hl.1 (Nat.le_of_ble_eq_true rfl) dX7_passFor_9 ⟨Nat.zero_le _, Nat.zero_le _⟩ (fun H locs hW => ?_)
      refine lv_istore (lv' := [(4, .int q9), (0, .ref (lb_ad G b0)), (1, .int x1), (2, .int x2), (3, .int x3)]) hx hb dX7_passFor_12 hl (by decide) rfl (fun ls hl => ?_)
      refine lv_iconst (v := -1) hx hb dX7_passFor_14 rfl ?_
      refine lv_istore (lv' := [(5, .int (-1 : Int32)), (4, .int q9), (0, .ref (lb_ad G b0)), (1, .int x1), (2, .int x2), (3, .int x3)]) hx hb dX7_passFor_15 hl (by decide) rfl (fun ls hl => ?_)
      refine lv_iload hx hb dX7_passFor_17 (lv_at hl 1 rfl) ?_
      refine lv_bipush (v := -9) hx hb dX7_passFor_19 rfl ?_
      refine lv_icmp_eq (tgt := 44) hx hb dX7_passFor_21 (by decide) (fun c21 => ?_) (fun c21 => ?_)
      · have h := (if_pos c21).symm.trans h
        exact w_X7_passFor_44 X hb0 ih x1 x2 x3 (-1 : Int32) σ _ _ _ h hW (lv_sub hl [2, 3, 4, 5, 0] rfl)
      · have h := (if_neg c21).symm.trans h
        refine lv_aload_n hx hb dX7_passFor_24 rfl (lv_at hl 2 rfl) ?_
        refine lv_iload hx hb dX7_passFor_25 (lv_at hl 1 rfl) ?_
        refine lv_iload_n hx hb dX7_passFor_27 rfl (lv_at hl 3 rfl) ?_
        obtain ⟨q28, e28, h⟩ := lb_bind h
        refine rc_X7_106 X hW hb0 e28 ⟨⟨rfl, rfl⟩, Nat.le_of_ble_eq_true rfl, Nat.le_of_ble_eq_true rfl⟩ hl.1 (Nat.le_of_ble_eq_true rfl) dX7_passFor_28 ⟨Nat.zero_le _, Nat.zero_le _⟩ (fun H locs hW => ?_)
        refine lv_istore (lv' := [(5, .int q28), (4, .int q9), (0, .ref (lb_ad G b0)), (1, .int x1), (2, .int x2), (3, .int x3)]) hx hb dX7_passFor_31 hl (by decide) rfl (fun ls hl => ?_)
        refine lv_aload_n hx hb dX7_passFor_33 rfl (lv_at hl 2 rfl) ?_
        refine rg_X7_46 (k := (b0 + 12)) X hW hb0 rfl dX7_passFor_34 ?_
        refine lv_iload hx hb dX7_passFor_37 (lv_at hl 1 rfl) ?_
        refine lv_dup2_11 hx hb dX7_passFor_39 rfl rfl ?_
        obtain ⟨i40, h⟩ := lb_chk_in h
        refine lb_ild X hW (lb_Var12 hb0) i40 dX7_passFor_40 ?_
        refine lv_iconst (v := 1) hx hb dX7_passFor_41 rfl ?_
        refine lv_isub hx hb dX7_passFor_42 ?_
        obtain ⟨i43, h⟩ := lb_chk_in h
        refine lb_ist X hW (lb_Var12 hb0) i43 dX7_passFor_43 (fun H locs hW => ?_)
        obtain ⟨s43, e43⟩ : ∃ z, z = lb_sto σ (b0 + 12) q9.toNatClampNeg ((σ (b0 + 12) q9.toNatClampNeg) - (1 : Int32)) := ⟨_, rfl⟩
        rw [← e43] at hW
        have h := lb_letI e43 h
        exact w_X7_passFor_44 X hb0 ih x1 x2 x3 q28 s43 _ _ _ h hW (lv_sub hl [2, 3, 4, 5, 0] rfl)
def f_X7_passFor (b0 : Nat) (x1 : Int32) (x2 : Int32) (σ : lb_Mem) : Option lb_Mem := f_X7_passFor_2 b0 lb_N x1 x2 (0 : Int32) σ
set_option maxRecDepth 20000 in
set_option maxHeartbeats 4000000 in
theorem m_X7_passFor (l : Launch) (G : lb_G) (σ : lb_Mem) {b0 : Nat} (hb0 : lb_V b0) (x1 : Int32) (x2 : Int32) (qr : lb_Mem) (h : f_X7_passFor b0 x1 x2 σ = some qr) : lb_M l yX7_passFor cX7_passFor 6 none rmX7_passFor [.ref (lb_ad G b0), .int x1, .int x2] G σ (lb_QV G qr) := by
  refine lb_start RX7 (by decide +kernel) rfl (Nat.le_of_ble_eq_true rfl) (fun p e s m below meth c X hW ls hl => ?_)
  have hx := X.1
  have hb := X.2.1
  have hl : lv_has ls 6 [(0, .ref (lb_ad G b0)), (1, .int x1), (2, .int x2)] := hl
  have h : (f_X7_passFor_2 b0 lb_N x1 x2 (0 : Int32) σ) = some qr := h
  skip
  refine lv_iconst (v := 0) hx hb dX7_passFor_0 rfl ?_
  refine lv_istore_n (lv' := [(3, .int (0 : Int32)), (0, .ref (lb_ad G b0)), (1, .int x1), (2, .int x2)]) hx hb dX7_passFor_1 rfl hl (by decide) rfl (fun ls hl => ?_)
  exact w_X7_passFor_2 X hb0 lb_N x1 x2 (0 : Int32) σ _ _ _ h hW (lv_sub hl [1, 2, 3, 0] rfl)
theorem rc_X7_99 {p : Program} {l : Launch} {e : Env} {R : Room} {s : State} {m : MethodId} {args : Array Value} {below : List Frame} {meth : Method} {c : Code} {H : Heap} {locs : List Loc} {cells slots : Nat} {Q : State → Prop} {cc : ByteArray} {pc nL : Nat} {ls : Array Slot} {rest : List Value} {G : lb_G} {σ : lb_Mem} {ret : Option FieldType} (X : lb_C G p s m args meth c cc nL RX7 ret) (hW : lb_W G s σ H locs) {b0 : Nat} (hb0 : lb_V b0) {x1 : Int32} {x2 : Int32} {qr : lb_Mem} (h : f_X7_passFor b0 x1 x2 σ = some qr) (hR : lb_room rmX7_passFor R 6) (hls : ls.size = nL) (hrest : (rest.map fun v => v.category).sum ≤ 8) (d : decode cc pc = .ok (.invokevirtual 99, 3)) (hcap : cells ≤ R.cells ∧ slots ≤ R.slots) (kk : ∀ (H1 : Heap) (locs1 : List Loc), lb_W G s qr H1 locs1 → W p l e R s m args below meth c H1 locs1 cells slots Q (F0 m (pc + 3) ls rest)) : W p l e R s m args below meth c H locs cells slots Q (F0 m pc ls (.int x2 :: .int x1 :: .ref (lb_ad G b0) :: rest)) :=
  lb_goV hW (lb_runV (As := [.int x1, .int x2]) X hW (m_X7_passFor l G σ hb0 x1 x2 qr h) (n := 2) ⟨qw_403, qw_44, qw_406, by decide +kernel⟩ hR qw_404 qw_405 (lb_isV hb0) rfl hls hrest d hcap) kk
abbrev rmX7_pass : Room := { frames := 5, cells := 0, slots := 0, locals := 119 }
def f_X7_pass_2 (b0 : Nat) : Nat → Int32 → Int32 → lb_Mem → Option lb_Mem
  | 0, _, _, _ => none
  | n + 1, x1, x2, σ => if (σ b0 10) ≤ x2 then lb_let (lb_sto σ b0 11 ((σ b0 11) + x1)) (fun s29 : lb_Mem => some s29) else (f_X7_passFor b0 x2 x1 σ).bind (fun s13 => f_X7_pass_2 b0 n x1 (x2 + 1) s13)
set_option maxRecDepth 20000 in
set_option maxHeartbeats 4000000 in
theorem w_X7_pass_2 {p : Program} {l : Launch} {e : Env} {s : State} {m : MethodId} {args : Array Value} {below : List Frame} {meth : Method} {c : Code} {G : lb_G} {b0 : Nat} {qr : lb_Mem} (X : lb_C G p s m args meth c cX7_pass 3 RX7 none) (hb0 : lb_V b0) : ∀ (n : Nat) (x1 : Int32) (x2 : Int32) (σ : lb_Mem) (H : Heap) (locs : List Loc) (ls : Array Slot), f_X7_pass_2 b0 n x1 x2 σ = some qr → lb_W G s σ H locs → lv_has ls 3 [(0, .ref (lb_ad G b0)), (1, .int x1), (2, .int x2)] → W p l e rmX7_pass s m args below meth c H locs 0 0 (MQ below (lb_QV G qr) args s 0 0 (lb_A G)) (F0 m 2 ls []) := by
  have hx := X.1
  have hb := X.2.1
  intro n
  induction n with
  | zero => intro x1 x2 σ H locs ls h hW hl; exact absurd h (fun z => by cases z)
  | succ n ih =>
    intro x1 x2 σ H locs ls h hW hl
    have h : (if (σ b0 10) ≤ x2 then lb_let (lb_sto σ b0 11 ((σ b0 11) + x1)) (fun s29 : lb_Mem => some s29) else (f_X7_passFor b0 x2 x1 σ).bind (fun s13 => f_X7_pass_2 b0 n x1 (x2 + 1) s13)) = some qr := h
    refine lv_iload_n hx hb dX7_pass_2 rfl (lv_at hl 2 rfl) ?_
    refine lv_aload_n hx hb dX7_pass_3 rfl (lv_at hl 0 rfl) ?_
    refine rg_X7_62 X hW hb0 dX7_pass_4 ?_
    refine lv_icmp_ge (tgt := 22) hx hb dX7_pass_7 (by decide) (fun c7 => ?_) (fun c7 => ?_)
    · have h := (if_pos c7).symm.trans h
      refine lv_aload_n hx hb dX7_pass_22 rfl (lv_at hl 0 rfl) ?_
      refine lv_dup hx hb dX7_pass_23 rfl ?_
      refine rg_X7_65 X hW hb0 dX7_pass_24 ?_
      refine lv_iload_n hx hb dX7_pass_27 rfl (lv_at hl 1 rfl) ?_
      refine lv_iadd hx hb dX7_pass_28 ?_
      refine rp_X7_65 X hW hb0 dX7_pass_29 (fun H locs hW => ?_)
      obtain ⟨s29, e29⟩ : ∃ z, z = lb_sto σ b0 11 ((σ b0 11) + x1) := ⟨_, rfl⟩
      rw [← e29] at hW
      have h := lb_letI e29 h
      obtain rfl := Option.some.inj h
      exact lb_vret X hW dX7_pass_32
    · have h := (if_neg c7).symm.trans h
      refine lv_aload_n hx hb dX7_pass_10 rfl (lv_at hl 0 rfl) ?_
      refine lv_iload_n hx hb dX7_pass_11 rfl (lv_at hl 2 rfl) ?_
      refine lv_iload_n hx hb dX7_pass_12 rfl (lv_at hl 1 rfl) ?_
      obtain ⟨s13, e13, h⟩ := lb_bind h
      refine rc_X7_99 X hW hb0 e13 ⟨⟨rfl, rfl⟩, Nat.le_of_ble_eq_true rfl, Nat.le_of_ble_eq_true rfl⟩ hl.1 (Nat.le_of_ble_eq_true rfl) dX7_pass_13 ⟨Nat.zero_le _, Nat.zero_le _⟩ (fun H locs hW => ?_)
      refine lv_iinc (v := (x2 + 1)) (lv' := [(2, .int (x2 + 1)), (0, .ref (lb_ad G b0)), (1, .int x1)]) hx hb dX7_pass_16 hl (k := 2) rfl rfl (by decide) rfl (fun ls hl => ?_)
      refine lv_goto (tgt := 2) hx hb dX7_pass_19 (by decide) ?_
      exact ih x1 (x2 + 1) s13 _ _ _ h hW (lv_sub hl [1, 2, 0] rfl)
def f_X7_pass (b0 : Nat) (x1 : Int32) (σ : lb_Mem) : Option lb_Mem := f_X7_pass_2 b0 lb_N x1 (0 : Int32) σ
set_option maxRecDepth 20000 in
set_option maxHeartbeats 4000000 in
theorem m_X7_pass (l : Launch) (G : lb_G) (σ : lb_Mem) {b0 : Nat} (hb0 : lb_V b0) (x1 : Int32) (qr : lb_Mem) (h : f_X7_pass b0 x1 σ = some qr) : lb_M l yX7_pass cX7_pass 3 none rmX7_pass [.ref (lb_ad G b0), .int x1] G σ (lb_QV G qr) := by
  refine lb_start RX7 (by decide +kernel) rfl (Nat.le_of_ble_eq_true rfl) (fun p e s m below meth c X hW ls hl => ?_)
  have hx := X.1
  have hb := X.2.1
  have hl : lv_has ls 3 [(0, .ref (lb_ad G b0)), (1, .int x1)] := hl
  have h : (f_X7_pass_2 b0 lb_N x1 (0 : Int32) σ) = some qr := h
  skip
  refine lv_iconst (v := 0) hx hb dX7_pass_0 rfl ?_
  refine lv_istore_n (lv' := [(2, .int (0 : Int32)), (0, .ref (lb_ad G b0)), (1, .int x1)]) hx hb dX7_pass_1 rfl hl (by decide) rfl (fun ls hl => ?_)
  exact w_X7_pass_2 X hb0 lb_N x1 (0 : Int32) σ _ _ _ h hW (lv_sub hl [1, 2, 0] rfl)
theorem rc_X4_49 {p : Program} {l : Launch} {e : Env} {R : Room} {s : State} {m : MethodId} {args : Array Value} {below : List Frame} {meth : Method} {c : Code} {H : Heap} {locs : List Loc} {cells slots : Nat} {Q : State → Prop} {cc : ByteArray} {pc nL : Nat} {ls : Array Slot} {rest : List Value} {G : lb_G} {σ : lb_Mem} {ret : Option FieldType} (X : lb_C G p s m args meth c cc nL RX4 ret) (hW : lb_W G s σ H locs) {b0 : Nat} (hb0 : lb_V b0) {x1 : Int32} {qr : (Int32 × lb_Mem)} (h : f_X7_addPerson b0 x1 σ = some qr) (hR : lb_room rmX7_addPerson R 2) (hls : ls.size = nL) (hrest : (rest.map fun v => v.category).sum ≤ 8) (d : decode cc pc = .ok (.invokevirtual 49, 3)) (hcap : cells ≤ R.cells ∧ slots ≤ R.slots) (kk : ∀ (H1 : Heap) (locs1 : List Loc), lb_W G s qr.2 H1 locs1 → W p l e R s m args below meth c H1 locs1 cells slots Q (F0 m (pc + 3) ls (.int qr.1 :: rest))) : W p l e R s m args below meth c H locs cells slots Q (F0 m pc ls (.int x1 :: .ref (lb_ad G b0) :: rest)) :=
  lb_goI hW (lb_runV (As := [.int x1]) X hW (m_X7_addPerson l G σ hb0 x1 qr h) (n := 1) ⟨qw_353, qw_44, qw_356, by decide +kernel⟩ hR qw_354 qw_355 (lb_isV hb0) rfl hls hrest d hcap) kk
theorem rc_X4_52 {p : Program} {l : Launch} {e : Env} {R : Room} {s : State} {m : MethodId} {args : Array Value} {below : List Frame} {meth : Method} {c : Code} {H : Heap} {locs : List Loc} {cells slots : Nat} {Q : State → Prop} {cc : ByteArray} {pc nL : Nat} {ls : Array Slot} {rest : List Value} {G : lb_G} {σ : lb_Mem} {ret : Option FieldType} (X : lb_C G p s m args meth c cc nL RX4 ret) (hW : lb_W G s σ H locs) {b0 : Nat} (hb0 : lb_V b0) {x1 : Int32} {x2 : Int32} {x3 : Int32} {x4 : Int32} {x5 : Int32} {x6 : Int32} {qr : (Int32 × lb_Mem)} (h : f_X7_addPot b0 x1 x2 x3 x4 x5 x6 σ = some qr) (hR : lb_room rmX7_addPot R 8) (hls : ls.size = nL) (hrest : (rest.map fun v => v.category).sum ≤ 8) (d : decode cc pc = .ok (.invokevirtual 52, 3)) (hcap : cells ≤ R.cells ∧ slots ≤ R.slots) (kk : ∀ (H1 : Heap) (locs1 : List Loc), lb_W G s qr.2 H1 locs1 → W p l e R s m args below meth c H1 locs1 cells slots Q (F0 m (pc + 3) ls (.int qr.1 :: rest))) : W p l e R s m args below meth c H locs cells slots Q (F0 m pc ls (.int x6 :: .int x5 :: .int x4 :: .int x3 :: .int x2 :: .int x1 :: .ref (lb_ad G b0) :: rest)) :=
  lb_goI hW (lb_runV (As := [.int x1, .int x2, .int x3, .int x4, .int x5, .int x6]) X hW (m_X7_addPot l G σ hb0 x1 x2 x3 x4 x5 x6 qr h) (n := 6) ⟨qw_360, qw_44, qw_363, by decide +kernel⟩ hR qw_361 qw_362 (lb_isV hb0) rfl hls hrest d hcap) kk
theorem rc_X4_56 {p : Program} {l : Launch} {e : Env} {R : Room} {s : State} {m : MethodId} {args : Array Value} {below : List Frame} {meth : Method} {c : Code} {H : Heap} {locs : List Loc} {cells slots : Nat} {Q : State → Prop} {cc : ByteArray} {pc nL : Nat} {ls : Array Slot} {rest : List Value} {G : lb_G} {σ : lb_Mem} {ret : Option FieldType} (X : lb_C G p s m args meth c cc nL RX4 ret) (hW : lb_W G s σ H locs) {b0 : Nat} (hb0 : lb_V b0) {x1 : Int32} {x2 : Int32} {qr : (Int32 × lb_Mem)} (h : f_X7_setLabel b0 x1 x2 σ = some qr) (hR : lb_room rmX7_setLabel R 3) (hls : ls.size = nL) (hrest : (rest.map fun v => v.category).sum ≤ 8) (d : decode cc pc = .ok (.invokevirtual 56, 3)) (hcap : cells ≤ R.cells ∧ slots ≤ R.slots) (kk : ∀ (H1 : Heap) (locs1 : List Loc), lb_W G s qr.2 H1 locs1 → W p l e R s m args below meth c H1 locs1 cells slots Q (F0 m (pc + 3) ls (.int qr.1 :: rest))) : W p l e R s m args below meth c H locs cells slots Q (F0 m pc ls (.int x2 :: .int x1 :: .ref (lb_ad G b0) :: rest)) :=
  lb_goI hW (lb_runV (As := [.int x1, .int x2]) X hW (m_X7_setLabel l G σ hb0 x1 x2 qr h) (n := 2) ⟨qw_375, qw_44, qw_378, by decide +kernel⟩ hR qw_376 qw_377 (lb_isV hb0) rfl hls hrest d hcap) kk
theorem rc_X4_60 {p : Program} {l : Launch} {e : Env} {R : Room} {s : State} {m : MethodId} {args : Array Value} {below : List Frame} {meth : Method} {c : Code} {H : Heap} {locs : List Loc} {cells slots : Nat} {Q : State → Prop} {cc : ByteArray} {pc nL : Nat} {ls : Array Slot} {rest : List Value} {G : lb_G} {σ : lb_Mem} {ret : Option FieldType} (X : lb_C G p s m args meth c cc nL RX4 ret) (hW : lb_W G s σ H locs) {b0 : Nat} (hb0 : lb_V b0) {x1 : Int32} {x2 : Int32} {qr : (Int32 × lb_Mem)} (h : f_X7_setOwner b0 x1 x2 σ = some qr) (hR : lb_room rmX7_setOwner R 3) (hls : ls.size = nL) (hrest : (rest.map fun v => v.category).sum ≤ 8) (d : decode cc pc = .ok (.invokevirtual 60, 3)) (hcap : cells ≤ R.cells ∧ slots ≤ R.slots) (kk : ∀ (H1 : Heap) (locs1 : List Loc), lb_W G s qr.2 H1 locs1 → W p l e R s m args below meth c H1 locs1 cells slots Q (F0 m (pc + 3) ls (.int qr.1 :: rest))) : W p l e R s m args below meth c H locs cells slots Q (F0 m pc ls (.int x2 :: .int x1 :: .ref (lb_ad G b0) :: rest)) :=
  lb_goI hW (lb_runV (As := [.int x1, .int x2]) X hW (m_X7_setOwner l G σ hb0 x1 x2 qr h) (n := 2) ⟨qw_383, qw_44, qw_386, by decide +kernel⟩ hR qw_384 qw_385 (lb_isV hb0) rfl hls hrest d hcap) kk
theorem rc_X4_63 {p : Program} {l : Launch} {e : Env} {R : Room} {s : State} {m : MethodId} {args : Array Value} {below : List Frame} {meth : Method} {c : Code} {H : Heap} {locs : List Loc} {cells slots : Nat} {Q : State → Prop} {cc : ByteArray} {pc nL : Nat} {ls : Array Slot} {rest : List Value} {G : lb_G} {σ : lb_Mem} {ret : Option FieldType} (X : lb_C G p s m args meth c cc nL RX4 ret) (hW : lb_W G s σ H locs) {b0 : Nat} (hb0 : lb_V b0) {x1 : Int32} {x2 : Int32} {qr : (Int32 × lb_Mem)} (h : f_X7_setLikes b0 x1 x2 σ = some qr) (hR : lb_room rmX7_setLikes R 3) (hls : ls.size = nL) (hrest : (rest.map fun v => v.category).sum ≤ 8) (d : decode cc pc = .ok (.invokevirtual 63, 3)) (hcap : cells ≤ R.cells ∧ slots ≤ R.slots) (kk : ∀ (H1 : Heap) (locs1 : List Loc), lb_W G s qr.2 H1 locs1 → W p l e R s m args below meth c H1 locs1 cells slots Q (F0 m (pc + 3) ls (.int qr.1 :: rest))) : W p l e R s m args below meth c H locs cells slots Q (F0 m pc ls (.int x2 :: .int x1 :: .ref (lb_ad G b0) :: rest)) :=
  lb_goI hW (lb_runV (As := [.int x1, .int x2]) X hW (m_X7_setLikes l G σ hb0 x1 x2 qr h) (n := 2) ⟨qw_387, qw_44, qw_390, by decide +kernel⟩ hR qw_388 qw_389 (lb_isV hb0) rfl hls hrest d hcap) kk
theorem rc_X4_66 {p : Program} {l : Launch} {e : Env} {R : Room} {s : State} {m : MethodId} {args : Array Value} {below : List Frame} {meth : Method} {c : Code} {H : Heap} {locs : List Loc} {cells slots : Nat} {Q : State → Prop} {cc : ByteArray} {pc nL : Nat} {ls : Array Slot} {rest : List Value} {G : lb_G} {σ : lb_Mem} {ret : Option FieldType} (X : lb_C G p s m args meth c cc nL RX4 ret) (hW : lb_W G s σ H locs) {b0 : Nat} (hb0 : lb_V b0) {x1 : Int32} {x2 : Int32} {qr : (Int32 × lb_Mem)} (h : f_X7_setFull b0 x1 x2 σ = some qr) (hR : lb_room rmX7_setFull R 3) (hls : ls.size = nL) (hrest : (rest.map fun v => v.category).sum ≤ 8) (d : decode cc pc = .ok (.invokevirtual 66, 3)) (hcap : cells ≤ R.cells ∧ slots ≤ R.slots) (kk : ∀ (H1 : Heap) (locs1 : List Loc), lb_W G s qr.2 H1 locs1 → W p l e R s m args below meth c H1 locs1 cells slots Q (F0 m (pc + 3) ls (.int qr.1 :: rest))) : W p l e R s m args below meth c H locs cells slots Q (F0 m pc ls (.int x2 :: .int x1 :: .ref (lb_ad G b0) :: rest)) :=
  lb_goI hW (lb_runV (As := [.int x1, .int x2]) X hW (m_X7_setFull l G σ hb0 x1 x2 qr h) (n := 2) ⟨qw_391, qw_44, qw_394, by decide +kernel⟩ hR qw_392 qw_393 (lb_isV hb0) rfl hls hrest d hcap) kk
theorem rc_X4_69 {p : Program} {l : Launch} {e : Env} {R : Room} {s : State} {m : MethodId} {args : Array Value} {below : List Frame} {meth : Method} {c : Code} {H : Heap} {locs : List Loc} {cells slots : Nat} {Q : State → Prop} {cc : ByteArray} {pc nL : Nat} {ls : Array Slot} {rest : List Value} {G : lb_G} {σ : lb_Mem} {ret : Option FieldType} (X : lb_C G p s m args meth c cc nL RX4 ret) (hW : lb_W G s σ H locs) {b0 : Nat} (hb0 : lb_V b0) (x1 : Int32) (hR : lb_room rmX7_canGoOn R 2) (hls : ls.size = nL) (hrest : (rest.map fun v => v.category).sum ≤ 8) (d : decode cc pc = .ok (.invokevirtual 69, 3)) (hcap : cells ≤ R.cells ∧ slots ≤ R.slots) (kk : ∀ (H1 : Heap) (locs1 : List Loc), lb_W G s σ H1 locs1 → W p l e R s m args below meth c H1 locs1 cells slots Q (F0 m (pc + 3) ls (.int (f_X7_canGoOn σ b0 x1) :: rest))) : W p l e R s m args below meth c H locs cells slots Q (F0 m pc ls (.int x1 :: .ref (lb_ad G b0) :: rest)) :=
  lb_goI hW (lb_runV (As := [.int x1]) X hW (m_X7_canGoOn l G σ hb0 x1 _ rfl) (n := 1) ⟨qw_395, qw_44, qw_398, by decide +kernel⟩ hR qw_396 qw_397 (lb_isV hb0) rfl hls hrest d hcap) kk
theorem rc_X4_72 {p : Program} {l : Launch} {e : Env} {R : Room} {s : State} {m : MethodId} {args : Array Value} {below : List Frame} {meth : Method} {c : Code} {H : Heap} {locs : List Loc} {cells slots : Nat} {Q : State → Prop} {cc : ByteArray} {pc nL : Nat} {ls : Array Slot} {rest : List Value} {G : lb_G} {σ : lb_Mem} {ret : Option FieldType} (X : lb_C G p s m args meth c cc nL RX4 ret) (hW : lb_W G s σ H locs) {b0 : Nat} (hb0 : lb_V b0) {x1 : Int32} {qr : lb_Mem} (h : f_X7_pass b0 x1 σ = some qr) (hR : lb_room rmX7_pass R 3) (hls : ls.size = nL) (hrest : (rest.map fun v => v.category).sum ≤ 8) (d : decode cc pc = .ok (.invokevirtual 72, 3)) (hcap : cells ≤ R.cells ∧ slots ≤ R.slots) (kk : ∀ (H1 : Heap) (locs1 : List Loc), lb_W G s qr H1 locs1 → W p l e R s m args below meth c H1 locs1 cells slots Q (F0 m (pc + 3) ls rest)) : W p l e R s m args below meth c H locs cells slots Q (F0 m pc ls (.int x1 :: .ref (lb_ad G b0) :: rest)) :=
  lb_goV hW (lb_runV (As := [.int x1]) X hW (m_X7_pass l G σ hb0 x1 qr h) (n := 1) ⟨qw_399, qw_44, qw_402, by decide +kernel⟩ hR qw_400 qw_401 (lb_isV hb0) rfl hls hrest d hcap) kk
abbrev rmX4_isObeyed : Room := { frames := 6, cells := 0, slots := 0, locals := 151 }
def f_X4_isObeyed_226 (b2 : Nat) (x6 : Int32) (σ : lb_Mem) (y1 : Int32) : Option (Int32 × lb_Mem) := (f_X7_pass b2 y1 σ).bind (fun s226 => lb_chk (lb_isB x6) (some (x6, s226)))
set_option maxRecDepth 20000 in
set_option maxHeartbeats 4000000 in
theorem w_X4_isObeyed_226 {p : Program} {l : Launch} {e : Env} {s : State} {m : MethodId} {args : Array Value} {below : List Frame} {meth : Method} {c : Code} {G : lb_G} {b2 : Nat} {qr : (Int32 × lb_Mem)} (X : lb_C G p s m args meth c cX4_isObeyed 7 RX4 (some .boolean)) (hb2 : lb_V b2) : ∀ (x6 : Int32) (σ : lb_Mem) (y1 : Int32) (H : Heap) (locs : List Loc) (ls : Array Slot), f_X4_isObeyed_226 b2 x6 σ y1 = some qr → lb_W G s σ H locs → lv_has ls 7 [(6, .int x6)] → W p l e rmX4_isObeyed s m args below meth c H locs 0 0 (MQ below (lb_QI G qr.1 qr.2) args s 0 0 (lb_A G)) (F0 m 226 ls [.int y1, .ref (lb_ad G b2)]) := by
  have hx := X.1
  have hb := X.2.1
  intro x6 σ y1 H locs ls h hW hl
  have h : ((f_X7_pass b2 y1 σ).bind (fun s226 => lb_chk (lb_isB x6) (some (x6, s226)))) = some qr := h
  obtain ⟨s226, e226, h⟩ := lb_bind h
  refine rc_X4_72 X hW hb2 e226 ⟨⟨rfl, rfl⟩, Nat.le_of_ble_eq_true rfl, Nat.le_of_ble_eq_true rfl⟩ hl.1 (Nat.le_of_ble_eq_true rfl) dX4_isObeyed_226 ⟨Nat.zero_le _, Nat.zero_le _⟩ (fun H locs hW => ?_)
  refine lv_iload hx hb dX4_isObeyed_229 (lv_at hl 0 rfl) ?_
  obtain ⟨z231, h⟩ := lb_chk_b h
  obtain rfl := Option.some.inj h
  exact lb_zret X hW z231 dX4_isObeyed_231
def f_X4_isObeyed (b2 : Nat) (x1 : Int32) (σ : lb_Mem) : Option (Int32 × lb_Mem) := (f_X4_digitAt σ (x1 + (1 : Int32))).bind (fun q4 => (f_X4_digitAt σ (x1 + (2 : Int32))).bind (fun q12 => (f_X4_letterAt σ x1).bind (fun q19 => if q19 = 102 then (f_X7_setFull b2 q4 q12 σ).bind (fun q193 => lb_chk (lb_isB q193.1) (some (q193.1, q193.2))) else if q19 = 103 then (f_X7_setOwner b2 q4 q12 σ).bind (fun q177 => lb_chk (lb_isB q177.1) (some (q177.1, q177.2))) else if q19 = 106 then (f_X4_kindAt σ (x1 + (1 : Int32))).bind (fun q127 => (f_X4_digitAt σ (x1 + (3 : Int32))).bind (fun q136 => (f_X4_digitAt σ (x1 + (4 : Int32))).bind (fun q143 => (f_X4_digitAt σ (x1 + (5 : Int32))).bind (fun q150 => (f_X4_digitAt σ (x1 + (6 : Int32))).bind (fun q158 => (f_X7_addPot b2 q127 q12 q136 q143 q150 q158 σ).bind (fun q161 => lb_chk (lb_isB q161.1) (some (q161.1, q161.2)))))))) else if q19 = 107 then (f_X7_setLikes b2 q4 q12 σ).bind (fun q185 => lb_chk (lb_isB q185.1) (some (q185.1, q185.2))) else if q19 = 108 then (f_X7_setLabel b2 q4 q12 σ).bind (fun q169 => lb_chk (lb_isB q169.1) (some (q169.1, q169.2))) else if q19 = 112 then (f_X7_addPerson b2 q4 σ).bind (fun q118 => lb_chk (lb_isB q118.1) (some (q118.1, q118.2))) else if q19 = 121 then lb_let ((((10 : Int32) * q4) + q12)) (fun v204 : Int32 => lb_let ((f_X7_canGoOn σ b2 v204)) (fun v212 : Int32 => if v212 = 0 then f_X4_isObeyed_226 b2 v212 σ (0 : Int32) else f_X4_isObeyed_226 b2 v212 σ v204)) else some ((0 : Int32), σ))))
set_option maxRecDepth 20000 in
set_option maxHeartbeats 4000000 in
theorem m_X4_isObeyed (l : Launch) (G : lb_G) (σ : lb_Mem) {b2 : Nat} (hb2 : lb_V b2) (x1 : Int32) (qr : (Int32 × lb_Mem)) (h : f_X4_isObeyed b2 x1 σ = some qr) : lb_M l yX4_isObeyed cX4_isObeyed 7 (some .boolean) rmX4_isObeyed [.ref (lb_ad G 49), .int x1, .ref (lb_ad G b2)] G σ (lb_QI G qr.1 qr.2) := by
  refine lb_start RX4 (by decide +kernel) rfl (Nat.le_of_ble_eq_true rfl) (fun p e s m below meth c X hW ls hl => ?_)
  have hx := X.1
  have hb := X.2.1
  have hl : lv_has ls 7 [(0, .ref (lb_ad G 49)), (1, .int x1), (2, .ref (lb_ad G b2))] := hl
  have h : ((f_X4_digitAt σ (x1 + (1 : Int32))).bind (fun q4 => (f_X4_digitAt σ (x1 + (2 : Int32))).bind (fun q12 => (f_X4_letterAt σ x1).bind (fun q19 => if q19 = 102 then (f_X7_setFull b2 q4 q12 σ).bind (fun q193 => lb_chk (lb_isB q193.1) (some (q193.1, q193.2))) else if q19 = 103 then (f_X7_setOwner b2 q4 q12 σ).bind (fun q177 => lb_chk (lb_isB q177.1) (some (q177.1, q177.2))) else if q19 = 106 then (f_X4_kindAt σ (x1 + (1 : Int32))).bind (fun q127 => (f_X4_digitAt σ (x1 + (3 : Int32))).bind (fun q136 => (f_X4_digitAt σ (x1 + (4 : Int32))).bind (fun q143 => (f_X4_digitAt σ (x1 + (5 : Int32))).bind (fun q150 => (f_X4_digitAt σ (x1 + (6 : Int32))).bind (fun q158 => (f_X7_addPot b2 q127 q12 q136 q143 q150 q158 σ).bind (fun q161 => lb_chk (lb_isB q161.1) (some (q161.1, q161.2)))))))) else if q19 = 107 then (f_X7_setLikes b2 q4 q12 σ).bind (fun q185 => lb_chk (lb_isB q185.1) (some (q185.1, q185.2))) else if q19 = 108 then (f_X7_setLabel b2 q4 q12 σ).bind (fun q169 => lb_chk (lb_isB q169.1) (some (q169.1, q169.2))) else if q19 = 112 then (f_X7_addPerson b2 q4 σ).bind (fun q118 => lb_chk (lb_isB q118.1) (some (q118.1, q118.2))) else if q19 = 121 then lb_let ((((10 : Int32) * q4) + q12)) (fun v204 : Int32 => lb_let ((f_X7_canGoOn σ b2 v204)) (fun v212 : Int32 => if v212 = 0 then f_X4_isObeyed_226 b2 v212 σ (0 : Int32) else f_X4_isObeyed_226 b2 v212 σ v204)) else some ((0 : Int32), σ))))) = some qr := h
  skip
  refine lv_aload_n hx hb dX4_isObeyed_0 rfl (lv_at hl 0 rfl) ?_
  refine lv_iload_n hx hb dX4_isObeyed_1 rfl (lv_at hl 1 rfl) ?_
  refine lv_iconst (v := 1) hx hb dX4_isObeyed_2 rfl ?_
  refine lv_iadd hx hb dX4_isObeyed_3 ?_
  obtain ⟨q4, e4, h⟩ := lb_bind h
  refine rc_X4_40 X hW e4 ⟨⟨rfl, rfl⟩, Nat.le_of_ble_eq_true rfl, Nat.le_of_ble_eq_true rfl⟩ hl.1 (Nat.le_of_ble_eq_true rfl) dX4_isObeyed_4 ⟨Nat.zero_le _, Nat.zero_le _⟩ (fun H locs hW => ?_)
  refine lv_istore_n (lv' := [(3, .int q4), (0, .ref (lb_ad G 49)), (1, .int x1), (2, .ref (lb_ad G b2))]) hx hb dX4_isObeyed_7 rfl hl (by decide) rfl (fun ls hl => ?_)
  refine lv_aload_n hx hb dX4_isObeyed_8 rfl (lv_at hl 1 rfl) ?_
  refine lv_iload_n hx hb dX4_isObeyed_9 rfl (lv_at hl 2 rfl) ?_
  refine lv_iconst (v := 2) hx hb dX4_isObeyed_10 rfl ?_
  refine lv_iadd hx hb dX4_isObeyed_11 ?_
  obtain ⟨q12, e12, h⟩ := lb_bind h
  refine rc_X4_40 X hW e12 ⟨⟨rfl, rfl⟩, Nat.le_of_ble_eq_true rfl, Nat.le_of_ble_eq_true rfl⟩ hl.1 (Nat.le_of_ble_eq_true rfl) dX4_isObeyed_12 ⟨Nat.zero_le _, Nat.zero_le _⟩ (fun H locs hW => ?_)
  refine lv_istore (lv' := [(4, .int q12), (3, .int q4), (0, .ref (lb_ad G 49)), (1, .int x1), (2, .ref (lb_ad G b2))]) hx hb dX4_isObeyed_15 hl (by decide) rfl (fun ls hl => ?_)
  refine lv_aload_n hx hb dX4_isObeyed_17 rfl (lv_at hl 2 rfl) ?_
  refine lv_iload_n hx hb dX4_isObeyed_18 rfl (lv_at hl 3 rfl) ?_
  obtain ⟨q19, e19, h⟩ := lb_bind h
  refine rc_X4_19 X hW e19 ⟨⟨rfl, rfl⟩, Nat.le_of_ble_eq_true rfl, Nat.le_of_ble_eq_true rfl⟩ hl.1 (Nat.le_of_ble_eq_true rfl) dX4_isObeyed_19 ⟨Nat.zero_le _, Nat.zero_le _⟩ (fun H locs hW => ?_)
  by_cases c22_102 : q19 = 102
  · have h := (if_pos c22_102).symm.trans h
    refine lv_tableIn (tgt := 189) hx hb dX4_isObeyed_22 (by rw [c22_102]; decide) (by rw [c22_102]; decide) (off := 167) (by rw [c22_102]; rfl) (by decide) ?_
    refine lv_aload_n hx hb dX4_isObeyed_189 rfl (lv_at hl 4 rfl) ?_
    refine lv_iload_n hx hb dX4_isObeyed_190 rfl (lv_at hl 1 rfl) ?_
    refine lv_iload hx hb dX4_isObeyed_191 (lv_at hl 0 rfl) ?_
    obtain ⟨q193, e193, h⟩ := lb_bind h
    refine rc_X4_66 X hW hb2 e193 ⟨⟨rfl, rfl⟩, Nat.le_of_ble_eq_true rfl, Nat.le_of_ble_eq_true rfl⟩ hl.1 (Nat.le_of_ble_eq_true rfl) dX4_isObeyed_193 ⟨Nat.zero_le _, Nat.zero_le _⟩ (fun H locs hW => ?_)
    obtain ⟨z196, h⟩ := lb_chk_b h
    obtain rfl := Option.some.inj h
    exact lb_zret X hW z196 dX4_isObeyed_196
  have h := (if_neg c22_102).symm.trans h
  by_cases c22_103 : q19 = 103
  · have h := (if_pos c22_103).symm.trans h
    refine lv_tableIn (tgt := 173) hx hb dX4_isObeyed_22 (by rw [c22_103]; decide) (by rw [c22_103]; decide) (off := 151) (by rw [c22_103]; rfl) (by decide) ?_
    refine lv_aload_n hx hb dX4_isObeyed_173 rfl (lv_at hl 4 rfl) ?_
    refine lv_iload_n hx hb dX4_isObeyed_174 rfl (lv_at hl 1 rfl) ?_
    refine lv_iload hx hb dX4_isObeyed_175 (lv_at hl 0 rfl) ?_
    obtain ⟨q177, e177, h⟩ := lb_bind h
    refine rc_X4_60 X hW hb2 e177 ⟨⟨rfl, rfl⟩, Nat.le_of_ble_eq_true rfl, Nat.le_of_ble_eq_true rfl⟩ hl.1 (Nat.le_of_ble_eq_true rfl) dX4_isObeyed_177 ⟨Nat.zero_le _, Nat.zero_le _⟩ (fun H locs hW => ?_)
    obtain ⟨z180, h⟩ := lb_chk_b h
    obtain rfl := Option.some.inj h
    exact lb_zret X hW z180 dX4_isObeyed_180
  have h := (if_neg c22_103).symm.trans h
  by_cases c22_106 : q19 = 106
  · have h := (if_pos c22_106).symm.trans h
    refine lv_tableIn (tgt := 122) hx hb dX4_isObeyed_22 (by rw [c22_106]; decide) (by rw [c22_106]; decide) (off := 100) (by rw [c22_106]; rfl) (by decide) ?_
    refine lv_aload_n hx hb dX4_isObeyed_122 rfl (lv_at hl 4 rfl) ?_
    refine lv_aload_n hx hb dX4_isObeyed_123 rfl (lv_at hl 2 rfl) ?_
    refine lv_iload_n hx hb dX4_isObeyed_124 rfl (lv_at hl 3 rfl) ?_
    refine lv_iconst (v := 1) hx hb dX4_isObeyed_125 rfl ?_
    refine lv_iadd hx hb dX4_isObeyed_126 ?_
    obtain ⟨q127, e127, h⟩ := lb_bind h
    refine rc_X4_37 X hW e127 ⟨⟨rfl, rfl⟩, Nat.le_of_ble_eq_true rfl, Nat.le_of_ble_eq_true rfl⟩ hl.1 (Nat.le_of_ble_eq_true rfl) dX4_isObeyed_127 ⟨Nat.zero_le _, Nat.zero_le _⟩ (fun H locs hW => ?_)
    refine lv_iload hx hb dX4_isObeyed_130 (lv_at hl 0 rfl) ?_
    refine lv_aload_n hx hb dX4_isObeyed_132 rfl (lv_at hl 2 rfl) ?_
    refine lv_iload_n hx hb dX4_isObeyed_133 rfl (lv_at hl 3 rfl) ?_
    refine lv_iconst (v := 3) hx hb dX4_isObeyed_134 rfl ?_
    refine lv_iadd hx hb dX4_isObeyed_135 ?_
    obtain ⟨q136, e136, h⟩ := lb_bind h
    refine rc_X4_40 X hW e136 ⟨⟨rfl, rfl⟩, Nat.le_of_ble_eq_true rfl, Nat.le_of_ble_eq_true rfl⟩ hl.1 (Nat.le_of_ble_eq_true rfl) dX4_isObeyed_136 ⟨Nat.zero_le _, Nat.zero_le _⟩ (fun H locs hW => ?_)
    refine lv_aload_n hx hb dX4_isObeyed_139 rfl (lv_at hl 2 rfl) ?_
    refine lv_iload_n hx hb dX4_isObeyed_140 rfl (lv_at hl 3 rfl) ?_
    refine lv_iconst (v := 4) hx hb dX4_isObeyed_141 rfl ?_
    refine lv_iadd hx hb dX4_isObeyed_142 ?_
    obtain ⟨q143, e143, h⟩ := lb_bind h
    refine rc_X4_40 X hW e143 ⟨⟨rfl, rfl⟩, Nat.le_of_ble_eq_true rfl, Nat.le_of_ble_eq_true rfl⟩ hl.1 (Nat.le_of_ble_eq_true rfl) dX4_isObeyed_143 ⟨Nat.zero_le _, Nat.zero_le _⟩ (fun H locs hW => ?_)
    refine lv_aload_n hx hb dX4_isObeyed_146 rfl (lv_at hl 2 rfl) ?_
    refine lv_iload_n hx hb dX4_isObeyed_147 rfl (lv_at hl 3 rfl) ?_
    refine lv_iconst (v := 5) hx hb dX4_isObeyed_148 rfl ?_
    refine lv_iadd hx hb dX4_isObeyed_149 ?_
    obtain ⟨q150, e150, h⟩ := lb_bind h
    refine rc_X4_40 X hW e150 ⟨⟨rfl, rfl⟩, Nat.le_of_ble_eq_true rfl, Nat.le_of_ble_eq_true rfl⟩ hl.1 (Nat.le_of_ble_eq_true rfl) dX4_isObeyed_150 ⟨Nat.zero_le _, Nat.zero_le _⟩ (fun H locs hW => ?_)
    refine lv_aload_n hx hb dX4_isObeyed_153 rfl (lv_at hl 2 rfl) ?_
    refine lv_iload_n hx hb dX4_isObeyed_154 rfl (lv_at hl 3 rfl) ?_
    refine lv_bipush (v := 6) hx hb dX4_isObeyed_155 rfl ?_
    refine lv_iadd hx hb dX4_isObeyed_157 ?_
    obtain ⟨q158, e158, h⟩ := lb_bind h
    refine rc_X4_40 X hW e158 ⟨⟨rfl, rfl⟩, Nat.le_of_ble_eq_true rfl, Nat.le_of_ble_eq_true rfl⟩ hl.1 (Nat.le_of_ble_eq_true rfl) dX4_isObeyed_158 ⟨Nat.zero_le _, Nat.zero_le _⟩ (fun H locs hW => ?_)
    obtain ⟨q161, e161, h⟩ := lb_bind h
    refine rc_X4_52 X hW hb2 e161 ⟨⟨rfl, rfl⟩, Nat.le_of_ble_eq_true rfl, Nat.le_of_ble_eq_true rfl⟩ hl.1 (Nat.le_of_ble_eq_true rfl) dX4_isObeyed_161 ⟨Nat.zero_le _, Nat.zero_le _⟩ (fun H locs hW => ?_)
    obtain ⟨z164, h⟩ := lb_chk_b h
    obtain rfl := Option.some.inj h
    exact lb_zret X hW z164 dX4_isObeyed_164
  have h := (if_neg c22_106).symm.trans h
  by_cases c22_107 : q19 = 107
  · have h := (if_pos c22_107).symm.trans h
    refine lv_tableIn (tgt := 181) hx hb dX4_isObeyed_22 (by rw [c22_107]; decide) (by rw [c22_107]; decide) (off := 159) (by rw [c22_107]; rfl) (by decide) ?_
    refine lv_aload_n hx hb dX4_isObeyed_181 rfl (lv_at hl 4 rfl) ?_
    refine lv_iload_n hx hb dX4_isObeyed_182 rfl (lv_at hl 1 rfl) ?_
    refine lv_iload hx hb dX4_isObeyed_183 (lv_at hl 0 rfl) ?_
    obtain ⟨q185, e185, h⟩ := lb_bind h
    refine rc_X4_63 X hW hb2 e185 ⟨⟨rfl, rfl⟩, Nat.le_of_ble_eq_true rfl, Nat.le_of_ble_eq_true rfl⟩ hl.1 (Nat.le_of_ble_eq_true rfl) dX4_isObeyed_185 ⟨Nat.zero_le _, Nat.zero_le _⟩ (fun H locs hW => ?_)
    obtain ⟨z188, h⟩ := lb_chk_b h
    obtain rfl := Option.some.inj h
    exact lb_zret X hW z188 dX4_isObeyed_188
  have h := (if_neg c22_107).symm.trans h
  by_cases c22_108 : q19 = 108
  · have h := (if_pos c22_108).symm.trans h
    refine lv_tableIn (tgt := 165) hx hb dX4_isObeyed_22 (by rw [c22_108]; decide) (by rw [c22_108]; decide) (off := 143) (by rw [c22_108]; rfl) (by decide) ?_
    refine lv_aload_n hx hb dX4_isObeyed_165 rfl (lv_at hl 4 rfl) ?_
    refine lv_iload_n hx hb dX4_isObeyed_166 rfl (lv_at hl 1 rfl) ?_
    refine lv_iload hx hb dX4_isObeyed_167 (lv_at hl 0 rfl) ?_
    obtain ⟨q169, e169, h⟩ := lb_bind h
    refine rc_X4_56 X hW hb2 e169 ⟨⟨rfl, rfl⟩, Nat.le_of_ble_eq_true rfl, Nat.le_of_ble_eq_true rfl⟩ hl.1 (Nat.le_of_ble_eq_true rfl) dX4_isObeyed_169 ⟨Nat.zero_le _, Nat.zero_le _⟩ (fun H locs hW => ?_)
    obtain ⟨z172, h⟩ := lb_chk_b h
    obtain rfl := Option.some.inj h
    exact lb_zret X hW z172 dX4_isObeyed_172
  have h := (if_neg c22_108).symm.trans h
  by_cases c22_112 : q19 = 112
  · have h := (if_pos c22_112).symm.trans h
    refine lv_tableIn (tgt := 116) hx hb dX4_isObeyed_22 (by rw [c22_112]; decide) (by rw [c22_112]; decide) (off := 94) (by rw [c22_112]; rfl) (by decide) ?_
    refine lv_aload_n hx hb dX4_isObeyed_116 rfl (lv_at hl 4 rfl) ?_
    refine lv_iload_n hx hb dX4_isObeyed_117 rfl (lv_at hl 1 rfl) ?_
    obtain ⟨q118, e118, h⟩ := lb_bind h
    refine rc_X4_49 X hW hb2 e118 ⟨⟨rfl, rfl⟩, Nat.le_of_ble_eq_true rfl, Nat.le_of_ble_eq_true rfl⟩ hl.1 (Nat.le_of_ble_eq_true rfl) dX4_isObeyed_118 ⟨Nat.zero_le _, Nat.zero_le _⟩ (fun H locs hW => ?_)
    obtain ⟨z121, h⟩ := lb_chk_b h
    obtain rfl := Option.some.inj h
    exact lb_zret X hW z121 dX4_isObeyed_121
  have h := (if_neg c22_112).symm.trans h
  by_cases c22_121 : q19 = 121
  · have h := (if_pos c22_121).symm.trans h
    refine lv_tableIn (tgt := 197) hx hb dX4_isObeyed_22 (by rw [c22_121]; decide) (by rw [c22_121]; decide) (off := 175) (by rw [c22_121]; rfl) (by decide) ?_
    refine lv_bipush (v := 10) hx hb dX4_isObeyed_197 rfl ?_
    refine lv_iload_n hx hb dX4_isObeyed_199 rfl (lv_at hl 1 rfl) ?_
    refine lv_imul hx hb dX4_isObeyed_200 ?_
    refine lv_iload hx hb dX4_isObeyed_201 (lv_at hl 0 rfl) ?_
    refine lv_iadd hx hb dX4_isObeyed_203 ?_
    refine lv_topi (fun v204 e204 => ?_)
    have h := lb_letI e204 h
    refine lv_istore (lv' := [(5, .int v204), (4, .int q12), (3, .int q4), (0, .ref (lb_ad G 49)), (1, .int x1), (2, .ref (lb_ad G b2))]) hx hb dX4_isObeyed_204 hl (by decide) rfl (fun ls hl => ?_)
    refine lv_aload_n hx hb dX4_isObeyed_206 rfl (lv_at hl 5 rfl) ?_
    refine lv_iload hx hb dX4_isObeyed_207 (lv_at hl 0 rfl) ?_
    refine rc_X4_69 X hW hb2 v204 ⟨⟨rfl, rfl⟩, Nat.le_of_ble_eq_true rfl, Nat.le_of_ble_eq_true rfl⟩ hl.1 (Nat.le_of_ble_eq_true rfl) dX4_isObeyed_209 ⟨Nat.zero_le _, Nat.zero_le _⟩ (fun H locs hW => ?_)
    refine lv_topi (fun v212 e212 => ?_)
    have h := lb_letI e212 h
    refine lv_istore (lv' := [(6, .int v212), (5, .int v204), (4, .int q12), (3, .int q4), (0, .ref (lb_ad G 49)), (1, .int x1), (2, .ref (lb_ad G b2))]) hx hb dX4_isObeyed_212 hl (by decide) rfl (fun ls hl => ?_)
    refine lv_aload_n hx hb dX4_isObeyed_214 rfl (lv_at hl 6 rfl) ?_
    refine lv_iload hx hb dX4_isObeyed_215 (lv_at hl 0 rfl) ?_
    refine lv_if_eq (tgt := 225) hx hb dX4_isObeyed_217 (by decide) (fun c217 => ?_) (fun c217 => ?_)
    · have h := (if_pos c217).symm.trans h
      refine lv_iconst (v := 0) hx hb dX4_isObeyed_225 rfl ?_
      exact w_X4_isObeyed_226 X hb2 v212 σ (0 : Int32) _ _ _ h hW (lv_sub hl [0] rfl)
    · have h := (if_neg c217).symm.trans h
      refine lv_iload hx hb dX4_isObeyed_220 (lv_at hl 1 rfl) ?_
      refine lv_goto (tgt := 226) hx hb dX4_isObeyed_222 (by decide) ?_
      exact w_X4_isObeyed_226 X hb2 v212 σ v204 _ _ _ h hW (lv_sub hl [0] rfl)
  have h := (if_neg c22_121).symm.trans h
  refine lb_tswD (tgt := 232) (lb_kn_cons c22_102 (lb_kn_cons c22_103 (lb_kn_cons c22_106 (lb_kn_cons c22_107 (lb_kn_cons c22_108 (lb_kn_cons c22_112 (lb_kn_cons c22_121 lb_kn_nil))))))) hx hb dX4_isObeyed_22 (by decide) (by decide) (by decide) (by decide) (by decide) ?_
  refine lv_iconst (v := 0) hx hb dX4_isObeyed_232 rfl ?_
  obtain rfl := Option.some.inj h
  exact lb_zret X hW (Or.inl rfl) dX4_isObeyed_233
abbrev rmX7_become : Room := { frames := 1, cells := 0, slots := 0, locals := 18 }
def f_X7_become (b0 : Nat) (b1 : Nat) (σ : lb_Mem) : Option lb_Mem := lb_let (lb_cpy σ (b1 + 8) (b0 + 8) 8) (fun s12 : lb_Mem => lb_let (lb_cpy s12 (b1 + 9) (b0 + 9) 8) (fun s27 : lb_Mem => lb_let (lb_cpy s27 (b1 + 10) (b0 + 10) 8) (fun s42 : lb_Mem => lb_let (lb_cpy s42 (b1 + 11) (b0 + 11) 8) (fun s57 : lb_Mem => lb_let (lb_cpy s57 (b1 + 12) (b0 + 12) 8) (fun s72 : lb_Mem => lb_let (lb_cpy s72 (b1 + 13) (b0 + 13) 8) (fun s87 : lb_Mem => lb_let (lb_cpy s87 (b1 + 14) (b0 + 14) 5) (fun s101 : lb_Mem => lb_let (lb_cpy s101 (b1 + 15) (b0 + 15) 5) (fun s115 : lb_Mem => lb_let (lb_sto s115 b0 9 (s115 b1 9)) (fun s123 : lb_Mem => lb_let (lb_sto s123 b0 10 (s123 b1 10)) (fun s131 : lb_Mem => lb_let (lb_sto s131 b0 11 (s131 b1 11)) (fun s139 : lb_Mem => some s139)))))))))))
set_option maxRecDepth 20000 in
set_option maxHeartbeats 4000000 in
theorem m_X7_become (l : Launch) (G : lb_G) (σ : lb_Mem) {b0 : Nat} (hb0 : lb_V b0) {b1 : Nat} (hb1 : lb_V b1) (qr : lb_Mem) (h : f_X7_become b0 b1 σ = some qr) : lb_M l yX7_become cX7_become 2 none rmX7_become [.ref (lb_ad G b0), .ref (lb_ad G b1)] G σ (lb_QV G qr) := by
  refine lb_start RX7 (by decide +kernel) rfl (Nat.le_of_ble_eq_true rfl) (fun p e s m below meth c X hW ls hl => ?_)
  have hx := X.1
  have hb := X.2.1
  have hl : lv_has ls 2 [(0, .ref (lb_ad G b0)), (1, .ref (lb_ad G b1))] := hl
  have h : (lb_let (lb_cpy σ (b1 + 8) (b0 + 8) 8) (fun s12 : lb_Mem => lb_let (lb_cpy s12 (b1 + 9) (b0 + 9) 8) (fun s27 : lb_Mem => lb_let (lb_cpy s27 (b1 + 10) (b0 + 10) 8) (fun s42 : lb_Mem => lb_let (lb_cpy s42 (b1 + 11) (b0 + 11) 8) (fun s57 : lb_Mem => lb_let (lb_cpy s57 (b1 + 12) (b0 + 12) 8) (fun s72 : lb_Mem => lb_let (lb_cpy s72 (b1 + 13) (b0 + 13) 8) (fun s87 : lb_Mem => lb_let (lb_cpy s87 (b1 + 14) (b0 + 14) 5) (fun s101 : lb_Mem => lb_let (lb_cpy s101 (b1 + 15) (b0 + 15) 5) (fun s115 : lb_Mem => lb_let (lb_sto s115 b0 9 (s115 b1 9)) (fun s123 : lb_Mem => lb_let (lb_sto s123 b0 10 (s123 b1 10)) (fun s131 : lb_Mem => lb_let (lb_sto s131 b0 11 (s131 b1 11)) (fun s139 : lb_Mem => some s139)))))))))))) = some qr := h
  skip
  refine lv_aload_n hx hb dX7_become_0 rfl (lv_at hl 1 rfl) ?_
  refine rg_X7_33 (k := (b1 + 8)) X hW hb1 rfl dX7_become_1 ?_
  refine lv_iconst (v := 0) hx hb dX7_become_4 rfl ?_
  refine lv_aload_n hx hb dX7_become_5 rfl (lv_at hl 0 rfl) ?_
  refine rg_X7_33 (k := (b0 + 8)) X hW hb0 rfl dX7_become_6 ?_
  refine lv_iconst (v := 0) hx hb dX7_become_9 rfl ?_
  refine lv_bipush (v := 8) hx hb dX7_become_10 rfl ?_
  refine lb_copy X hW hl.1 (lb_Var8 hb1) (lb_Var8 hb0) (x := 8) rfl (by decide) qw_346 (Nat.le_of_ble_eq_true rfl) (Nat.le_of_ble_eq_true rfl) dX7_become_12 (fun H locs hW => ?_)
  obtain ⟨s12, e12⟩ : ∃ z, z = lb_cpy σ (b1 + 8) (b0 + 8) 8 := ⟨_, rfl⟩
  rw [← e12] at hW
  have h := lb_letI e12 h
  refine lv_aload_n hx hb dX7_become_15 rfl (lv_at hl 1 rfl) ?_
  refine rg_X7_37 (k := (b1 + 9)) X hW hb1 rfl dX7_become_16 ?_
  refine lv_iconst (v := 0) hx hb dX7_become_19 rfl ?_
  refine lv_aload_n hx hb dX7_become_20 rfl (lv_at hl 0 rfl) ?_
  refine rg_X7_37 (k := (b0 + 9)) X hW hb0 rfl dX7_become_21 ?_
  refine lv_iconst (v := 0) hx hb dX7_become_24 rfl ?_
  refine lv_bipush (v := 8) hx hb dX7_become_25 rfl ?_
  refine lb_copy X hW hl.1 (lb_Var9 hb1) (lb_Var9 hb0) (x := 8) rfl (by decide) qw_346 (Nat.le_of_ble_eq_true rfl) (Nat.le_of_ble_eq_true rfl) dX7_become_27 (fun H locs hW => ?_)
  obtain ⟨s27, e27⟩ : ∃ z, z = lb_cpy s12 (b1 + 9) (b0 + 9) 8 := ⟨_, rfl⟩
  rw [← e27] at hW
  have h := lb_letI e27 h
  refine lv_aload_n hx hb dX7_become_30 rfl (lv_at hl 1 rfl) ?_
  refine rg_X7_40 (k := (b1 + 10)) X hW hb1 rfl dX7_become_31 ?_
  refine lv_iconst (v := 0) hx hb dX7_become_34 rfl ?_
  refine lv_aload_n hx hb dX7_become_35 rfl (lv_at hl 0 rfl) ?_
  refine rg_X7_40 (k := (b0 + 10)) X hW hb0 rfl dX7_become_36 ?_
  refine lv_iconst (v := 0) hx hb dX7_become_39 rfl ?_
  refine lv_bipush (v := 8) hx hb dX7_become_40 rfl ?_
  refine lb_copy X hW hl.1 (lb_Var10 hb1) (lb_Var10 hb0) (x := 8) rfl (by decide) qw_346 (Nat.le_of_ble_eq_true rfl) (Nat.le_of_ble_eq_true rfl) dX7_become_42 (fun H locs hW => ?_)
  obtain ⟨s42, e42⟩ : ∃ z, z = lb_cpy s27 (b1 + 10) (b0 + 10) 8 := ⟨_, rfl⟩
  rw [← e42] at hW
  have h := lb_letI e42 h
  refine lv_aload_n hx hb dX7_become_45 rfl (lv_at hl 1 rfl) ?_
  refine rg_X7_43 (k := (b1 + 11)) X hW hb1 rfl dX7_become_46 ?_
  refine lv_iconst (v := 0) hx hb dX7_become_49 rfl ?_
  refine lv_aload_n hx hb dX7_become_50 rfl (lv_at hl 0 rfl) ?_
  refine rg_X7_43 (k := (b0 + 11)) X hW hb0 rfl dX7_become_51 ?_
  refine lv_iconst (v := 0) hx hb dX7_become_54 rfl ?_
  refine lv_bipush (v := 8) hx hb dX7_become_55 rfl ?_
  refine lb_copy X hW hl.1 (lb_Var11 hb1) (lb_Var11 hb0) (x := 8) rfl (by decide) qw_346 (Nat.le_of_ble_eq_true rfl) (Nat.le_of_ble_eq_true rfl) dX7_become_57 (fun H locs hW => ?_)
  obtain ⟨s57, e57⟩ : ∃ z, z = lb_cpy s42 (b1 + 11) (b0 + 11) 8 := ⟨_, rfl⟩
  rw [← e57] at hW
  have h := lb_letI e57 h
  refine lv_aload_n hx hb dX7_become_60 rfl (lv_at hl 1 rfl) ?_
  refine rg_X7_46 (k := (b1 + 12)) X hW hb1 rfl dX7_become_61 ?_
  refine lv_iconst (v := 0) hx hb dX7_become_64 rfl ?_
  refine lv_aload_n hx hb dX7_become_65 rfl (lv_at hl 0 rfl) ?_
  refine rg_X7_46 (k := (b0 + 12)) X hW hb0 rfl dX7_become_66 ?_
  refine lv_iconst (v := 0) hx hb dX7_become_69 rfl ?_
  refine lv_bipush (v := 8) hx hb dX7_become_70 rfl ?_
  refine lb_copy X hW hl.1 (lb_Var12 hb1) (lb_Var12 hb0) (x := 8) rfl (by decide) qw_346 (Nat.le_of_ble_eq_true rfl) (Nat.le_of_ble_eq_true rfl) dX7_become_72 (fun H locs hW => ?_)
  obtain ⟨s72, e72⟩ : ∃ z, z = lb_cpy s57 (b1 + 12) (b0 + 12) 8 := ⟨_, rfl⟩
  rw [← e72] at hW
  have h := lb_letI e72 h
  refine lv_aload_n hx hb dX7_become_75 rfl (lv_at hl 1 rfl) ?_
  refine rg_X7_49 (k := (b1 + 13)) X hW hb1 rfl dX7_become_76 ?_
  refine lv_iconst (v := 0) hx hb dX7_become_79 rfl ?_
  refine lv_aload_n hx hb dX7_become_80 rfl (lv_at hl 0 rfl) ?_
  refine rg_X7_49 (k := (b0 + 13)) X hW hb0 rfl dX7_become_81 ?_
  refine lv_iconst (v := 0) hx hb dX7_become_84 rfl ?_
  refine lv_bipush (v := 8) hx hb dX7_become_85 rfl ?_
  refine lb_copy X hW hl.1 (lb_Var13 hb1) (lb_Var13 hb0) (x := 8) rfl (by decide) qw_346 (Nat.le_of_ble_eq_true rfl) (Nat.le_of_ble_eq_true rfl) dX7_become_87 (fun H locs hW => ?_)
  obtain ⟨s87, e87⟩ : ∃ z, z = lb_cpy s72 (b1 + 13) (b0 + 13) 8 := ⟨_, rfl⟩
  rw [← e87] at hW
  have h := lb_letI e87 h
  refine lv_aload_n hx hb dX7_become_90 rfl (lv_at hl 1 rfl) ?_
  refine rg_X7_52 (k := (b1 + 14)) X hW hb1 rfl dX7_become_91 ?_
  refine lv_iconst (v := 0) hx hb dX7_become_94 rfl ?_
  refine lv_aload_n hx hb dX7_become_95 rfl (lv_at hl 0 rfl) ?_
  refine rg_X7_52 (k := (b0 + 14)) X hW hb0 rfl dX7_become_96 ?_
  refine lv_iconst (v := 0) hx hb dX7_become_99 rfl ?_
  refine lv_iconst (v := 5) hx hb dX7_become_100 rfl ?_
  refine lb_copy X hW hl.1 (lb_Var14 hb1) (lb_Var14 hb0) (x := 5) rfl (by decide) qw_346 (Nat.le_of_ble_eq_true rfl) (Nat.le_of_ble_eq_true rfl) dX7_become_101 (fun H locs hW => ?_)
  obtain ⟨s101, e101⟩ : ∃ z, z = lb_cpy s87 (b1 + 14) (b0 + 14) 5 := ⟨_, rfl⟩
  rw [← e101] at hW
  have h := lb_letI e101 h
  refine lv_aload_n hx hb dX7_become_104 rfl (lv_at hl 1 rfl) ?_
  refine rg_X7_55 (k := (b1 + 15)) X hW hb1 rfl dX7_become_105 ?_
  refine lv_iconst (v := 0) hx hb dX7_become_108 rfl ?_
  refine lv_aload_n hx hb dX7_become_109 rfl (lv_at hl 0 rfl) ?_
  refine rg_X7_55 (k := (b0 + 15)) X hW hb0 rfl dX7_become_110 ?_
  refine lv_iconst (v := 0) hx hb dX7_become_113 rfl ?_
  refine lv_iconst (v := 5) hx hb dX7_become_114 rfl ?_
  refine lb_copy X hW hl.1 (lb_Var15 hb1) (lb_Var15 hb0) (x := 5) rfl (by decide) qw_346 (Nat.le_of_ble_eq_true rfl) (Nat.le_of_ble_eq_true rfl) dX7_become_115 (fun H locs hW => ?_)
  obtain ⟨s115, e115⟩ : ∃ z, z = lb_cpy s101 (b1 + 15) (b0 + 15) 5 := ⟨_, rfl⟩
  rw [← e115] at hW
  have h := lb_letI e115 h
  refine lv_aload_n hx hb dX7_become_118 rfl (lv_at hl 0 rfl) ?_
  refine lv_aload_n hx hb dX7_become_119 rfl (lv_at hl 1 rfl) ?_
  refine rg_X7_58 X hW hb1 dX7_become_120 ?_
  refine rp_X7_58 X hW hb0 dX7_become_123 (fun H locs hW => ?_)
  obtain ⟨s123, e123⟩ : ∃ z, z = lb_sto s115 b0 9 (s115 b1 9) := ⟨_, rfl⟩
  rw [← e123] at hW
  have h := lb_letI e123 h
  refine lv_aload_n hx hb dX7_become_126 rfl (lv_at hl 0 rfl) ?_
  refine lv_aload_n hx hb dX7_become_127 rfl (lv_at hl 1 rfl) ?_
  refine rg_X7_62 X hW hb1 dX7_become_128 ?_
  refine rp_X7_62 X hW hb0 dX7_become_131 (fun H locs hW => ?_)
  obtain ⟨s131, e131⟩ : ∃ z, z = lb_sto s123 b0 10 (s123 b1 10) := ⟨_, rfl⟩
  rw [← e131] at hW
  have h := lb_letI e131 h
  refine lv_aload_n hx hb dX7_become_134 rfl (lv_at hl 0 rfl) ?_
  refine lv_aload_n hx hb dX7_become_135 rfl (lv_at hl 1 rfl) ?_
  refine rg_X7_65 X hW hb1 dX7_become_136 ?_
  refine rp_X7_65 X hW hb0 dX7_become_139 (fun H locs hW => ?_)
  obtain ⟨s139, e139⟩ : ∃ z, z = lb_sto s131 b0 11 (s131 b1 11) := ⟨_, rfl⟩
  rw [← e139] at hW
  have h := lb_letI e139 h
  obtain rfl := Option.some.inj h
  exact lb_vret X hW dX7_become_142
