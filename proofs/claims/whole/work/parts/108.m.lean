abbrev rmX8_row : Room := { frames := 1, cells := 0, slots := 0, locals := 22 }
def f_X8_row_22 (x1 : Int32) (σ : lb_Mem) (y0 : Int32) (y1 : Int32) : Option (Int32 × lb_Mem) := lb_let ((f_X8_first y0 y1)) (fun v25 : Int32 => if v25 = 0 then lb_chk (lb_ix (σ 0 6) 16) (lb_let (lb_sto σ 51 (σ 0 6).toNatClampNeg x1) (fun s45 : lb_Mem => lb_let (lb_sto s45 0 6 ((s45 0 6) + (1 : Int32))) (fun s53 : lb_Mem => some ((s53 0 6), s53)))) else (f_X8_refuse v25 σ).bind (fun q32 => some (q32.1, q32.2)))
set_option maxRecDepth 20000 in
set_option maxHeartbeats 4000000 in
theorem w_X8_row_22 {p : Program} {l : Launch} {e : Env} {s : State} {m : MethodId} {args : Array Value} {below : List Frame} {meth : Method} {c : Code} {G : lb_G} {qr : (Int32 × lb_Mem)} (X : lb_C G p s m args meth c cX8_row 3 RX8 (some .int)) : ∀ (x1 : Int32) (σ : lb_Mem) (y0 : Int32) (y1 : Int32) (H : Heap) (locs : List Loc) (ls : Array Slot), f_X8_row_22 x1 σ y0 y1 = some qr → lb_W G s σ H locs → lv_has ls 3 [(0, .ref (lb_ad G 0)), (1, .int x1)] → W p l e rmX8_row s m args below meth c H locs 0 0 (MQ below (lb_QI G qr.1 qr.2) args s 0 0 (lb_A G)) (F0 m 22 ls [.int y1, .int y0]) := by
  have hx := X.1
  have hb := X.2.1
  intro x1 σ y0 y1 H locs ls h hW hl
  have h : (lb_let ((f_X8_first y0 y1)) (fun v25 : Int32 => if v25 = 0 then lb_chk (lb_ix (σ 0 6) 16) (lb_let (lb_sto σ 51 (σ 0 6).toNatClampNeg x1) (fun s45 : lb_Mem => lb_let (lb_sto s45 0 6 ((s45 0 6) + (1 : Int32))) (fun s53 : lb_Mem => some ((s53 0 6), s53)))) else (f_X8_refuse v25 σ).bind (fun q32 => some (q32.1, q32.2)))) = some qr := h
  refine rc_X8_51 X hW y0 y1 ⟨⟨rfl, rfl⟩, Nat.le_of_ble_eq_true rfl, Nat.le_of_ble_eq_true rfl⟩ hl.1 (Nat.le_of_ble_eq_true rfl) dX8_row_22 ⟨Nat.zero_le _, Nat.zero_le _⟩ (fun H locs hW => ?_)
  refine lv_topi (fun v25 e25 => ?_)
  have h := lb_letI e25 h
  refine lv_istore_n (lv' := [(2, .int v25), (0, .ref (lb_ad G 0)), (1, .int x1)]) hx hb dX8_row_25 rfl hl (by decide) rfl (fun ls hl => ?_)
  refine lv_iload_n hx hb dX8_row_26 rfl (lv_at hl 0 rfl) ?_
  refine lv_if_eq (tgt := 36) hx hb dX8_row_27 (by decide) (fun c27 => ?_) (fun c27 => ?_)
  · have h := (if_pos c27).symm.trans h
    refine lv_aload_n hx hb dX8_row_36 rfl (lv_at hl 1 rfl) ?_
    refine rg_X8_33 X hW dX8_row_37 ?_
    refine lv_aload_n hx hb dX8_row_40 rfl (lv_at hl 1 rfl) ?_
    refine rg_X8_37 X hW dX8_row_41 ?_
    refine lv_iload_n hx hb dX8_row_44 rfl (lv_at hl 2 rfl) ?_
    obtain ⟨i45, h⟩ := lb_chk_in h
    refine lb_ist X hW (show lb_ar 51 = 15 + 1 from rfl) i45 dX8_row_45 (fun H locs hW => ?_)
    obtain ⟨s45, e45⟩ : ∃ z, z = lb_sto σ 51 (σ 0 6).toNatClampNeg x1 := ⟨_, rfl⟩
    rw [← e45] at hW
    have h := lb_letI e45 h
    refine lv_aload_n hx hb dX8_row_46 rfl (lv_at hl 1 rfl) ?_
    refine lv_dup hx hb dX8_row_47 rfl ?_
    refine rg_X8_37 X hW dX8_row_48 ?_
    refine lv_iconst (v := 1) hx hb dX8_row_51 rfl ?_
    refine lv_iadd hx hb dX8_row_52 ?_
    refine rp_X8_37 X hW dX8_row_53 (fun H locs hW => ?_)
    obtain ⟨s53, e53⟩ : ∃ z, z = lb_sto s45 0 6 ((s45 0 6) + (1 : Int32)) := ⟨_, rfl⟩
    rw [← e53] at hW
    have h := lb_letI e53 h
    refine lv_aload_n hx hb dX8_row_56 rfl (lv_at hl 1 rfl) ?_
    refine rg_X8_37 X hW dX8_row_57 ?_
    obtain rfl := Option.some.inj h
    exact lb_iret X hW dX8_row_60
  · have h := (if_neg c27).symm.trans h
    refine lv_aload_n hx hb dX8_row_30 rfl (lv_at hl 1 rfl) ?_
    refine lv_iload_n hx hb dX8_row_31 rfl (lv_at hl 0 rfl) ?_
    obtain ⟨q32, e32, h⟩ := lb_bind h
    refine rc_X8_55 X hW e32 ⟨⟨rfl, rfl⟩, Nat.le_of_ble_eq_true rfl, Nat.le_of_ble_eq_true rfl⟩ hl.1 (Nat.le_of_ble_eq_true rfl) dX8_row_32 ⟨Nat.zero_le _, Nat.zero_le _⟩ (fun H locs hW => ?_)
    obtain rfl := Option.some.inj h
    exact lb_iret X hW dX8_row_35
def f_X8_row (x1 : Int32) (σ : lb_Mem) : Option (Int32 × lb_Mem) := if (16 : Int32) ≤ (σ 0 6) then f_X8_row_22 x1 σ (f_X8_within x1 (0 : Int32) (99 : Int32)) (-6 : Int32) else f_X8_row_22 x1 σ (f_X8_within x1 (0 : Int32) (99 : Int32)) (0 : Int32)
set_option maxRecDepth 20000 in
set_option maxHeartbeats 4000000 in
theorem m_X8_row (l : Launch) (G : lb_G) (σ : lb_Mem) (x1 : Int32) (qr : (Int32 × lb_Mem)) (h : f_X8_row x1 σ = some qr) : lb_M l yX8_row cX8_row 3 (some .int) rmX8_row [.ref (lb_ad G 0), .int x1] G σ (lb_QI G qr.1 qr.2) := by
  refine lb_start RX8 (by decide +kernel) rfl (Nat.le_of_ble_eq_true rfl) (fun p e s m below meth c X hW ls hl => ?_)
  have hx := X.1
  have hb := X.2.1
  have hl : lv_has ls 3 [(0, .ref (lb_ad G 0)), (1, .int x1)] := hl
  have h : (if (16 : Int32) ≤ (σ 0 6) then f_X8_row_22 x1 σ (f_X8_within x1 (0 : Int32) (99 : Int32)) (-6 : Int32) else f_X8_row_22 x1 σ (f_X8_within x1 (0 : Int32) (99 : Int32)) (0 : Int32)) = some qr := h
  skip
  refine lv_iload_n hx hb dX8_row_0 rfl (lv_at hl 1 rfl) ?_
  refine lv_iconst (v := 0) hx hb dX8_row_1 rfl ?_
  refine lv_bipush (v := 99) hx hb dX8_row_2 rfl ?_
  refine rc_X8_44 X hW x1 (0 : Int32) (99 : Int32) ⟨⟨rfl, rfl⟩, Nat.le_of_ble_eq_true rfl, Nat.le_of_ble_eq_true rfl⟩ hl.1 (Nat.le_of_ble_eq_true rfl) dX8_row_4 ⟨Nat.zero_le _, Nat.zero_le _⟩ (fun H locs hW => ?_)
  refine lv_aload_n hx hb dX8_row_7 rfl (lv_at hl 0 rfl) ?_
  refine rg_X8_37 X hW dX8_row_8 ?_
  refine lv_bipush (v := 16) hx hb dX8_row_11 rfl ?_
  refine lv_icmp_ge (tgt := 20) hx hb dX8_row_13 (by decide) (fun c13 => ?_) (fun c13 => ?_)
  · have h := (if_pos c13).symm.trans h
    refine lv_bipush (v := -6) hx hb dX8_row_20 rfl ?_
    exact w_X8_row_22 X x1 σ (f_X8_within x1 (0 : Int32) (99 : Int32)) (-6 : Int32) _ _ _ h hW (lv_sub hl [0, 1] rfl)
  · have h := (if_neg c13).symm.trans h
    refine lv_iconst (v := 0) hx hb dX8_row_16 rfl ?_
    refine lv_goto (tgt := 22) hx hb dX8_row_17 (by decide) ?_
    exact w_X8_row_22 X x1 σ (f_X8_within x1 (0 : Int32) (99 : Int32)) (0 : Int32) _ _ _ h hW (lv_sub hl [0, 1] rfl)
abbrev rmX8_judge : Room := { frames := 1, cells := 0, slots := 0, locals := 21 }
def f_X8_judge_56 (x1 : Int32) (σ : lb_Mem) : Option (Int32 × lb_Mem) := lb_let (lb_sto σ 0 6 (0 : Int32)) (fun s58 : lb_Mem => some (x1, s58))
set_option maxRecDepth 20000 in
set_option maxHeartbeats 4000000 in
theorem w_X8_judge_56 {p : Program} {l : Launch} {e : Env} {s : State} {m : MethodId} {args : Array Value} {below : List Frame} {meth : Method} {c : Code} {G : lb_G} {qr : (Int32 × lb_Mem)} (X : lb_C G p s m args meth c cX8_judge 3 RX8 (some .int)) : ∀ (x1 : Int32) (σ : lb_Mem) (H : Heap) (locs : List Loc) (ls : Array Slot), f_X8_judge_56 x1 σ = some qr → lb_W G s σ H locs → lv_has ls 3 [(0, .ref (lb_ad G 0)), (1, .int x1)] → W p l e rmX8_judge s m args below meth c H locs 0 0 (MQ below (lb_QI G qr.1 qr.2) args s 0 0 (lb_A G)) (F0 m 56 ls []) := by
  have hx := X.1
  have hb := X.2.1
  intro x1 σ H locs ls h hW hl
  have h : (lb_let (lb_sto σ 0 6 (0 : Int32)) (fun s58 : lb_Mem => some (x1, s58))) = some qr := h
  refine lv_aload_n hx hb dX8_judge_56 rfl (lv_at hl 0 rfl) ?_
  refine lv_iconst (v := 0) hx hb dX8_judge_57 rfl ?_
  refine rp_X8_37 X hW dX8_judge_58 (fun H locs hW => ?_)
  obtain ⟨s58, e58⟩ : ∃ z, z = lb_sto σ 0 6 (0 : Int32) := ⟨_, rfl⟩
  rw [← e58] at hW
  have h := lb_letI e58 h
  refine lv_iload_n hx hb dX8_judge_61 rfl (lv_at hl 1 rfl) ?_
  obtain rfl := Option.some.inj h
  exact lb_iret X hW dX8_judge_62
def f_X8_judge_5 : Nat → Int32 → Int32 → lb_Mem → Option (Int32 × lb_Mem)
  | 0, _, _, _ => none
  | n + 1, x1, x2, σ => if (σ 0 6) ≤ x2 then f_X8_judge_56 x1 σ else if x1 = (-9 : Int32) then if (f_X7_hasPot σ 1 x2) = 0 then f_X8_judge_5 n x2 (x2 + 1) σ else lb_chk (lb_ix x2 8) (lb_chk (lb_ix x2 16) (if (σ 12 x2.toNatClampNeg) = (σ 51 x2.toNatClampNeg) then f_X8_judge_5 n x1 (x2 + 1) σ else f_X8_judge_5 n x2 (x2 + 1) σ)) else f_X8_judge_56 x1 σ
set_option maxRecDepth 20000 in
set_option maxHeartbeats 4000000 in
theorem w_X8_judge_5 {p : Program} {l : Launch} {e : Env} {s : State} {m : MethodId} {args : Array Value} {below : List Frame} {meth : Method} {c : Code} {G : lb_G} {qr : (Int32 × lb_Mem)} (X : lb_C G p s m args meth c cX8_judge 3 RX8 (some .int)) : ∀ (n : Nat) (x1 : Int32) (x2 : Int32) (σ : lb_Mem) (H : Heap) (locs : List Loc) (ls : Array Slot), f_X8_judge_5 n x1 x2 σ = some qr → lb_W G s σ H locs → lv_has ls 3 [(0, .ref (lb_ad G 0)), (1, .int x1), (2, .int x2)] → W p l e rmX8_judge s m args below meth c H locs 0 0 (MQ below (lb_QI G qr.1 qr.2) args s 0 0 (lb_A G)) (F0 m 5 ls []) := by
  have hx := X.1
  have hb := X.2.1
  intro n
  induction n with
  | zero => intro x1 x2 σ H locs ls h hW hl; exact absurd h (fun z => by cases z)
  | succ n ih =>
    intro x1 x2 σ H locs ls h hW hl
    have h : (if (σ 0 6) ≤ x2 then f_X8_judge_56 x1 σ else if x1 = (-9 : Int32) then if (f_X7_hasPot σ 1 x2) = 0 then f_X8_judge_5 n x2 (x2 + 1) σ else lb_chk (lb_ix x2 8) (lb_chk (lb_ix x2 16) (if (σ 12 x2.toNatClampNeg) = (σ 51 x2.toNatClampNeg) then f_X8_judge_5 n x1 (x2 + 1) σ else f_X8_judge_5 n x2 (x2 + 1) σ)) else f_X8_judge_56 x1 σ) = some qr := h
    refine lv_iload_n hx hb dX8_judge_5 rfl (lv_at hl 2 rfl) ?_
    refine lv_aload_n hx hb dX8_judge_6 rfl (lv_at hl 0 rfl) ?_
    refine rg_X8_37 X hW dX8_judge_7 ?_
    refine lv_icmp_ge (tgt := 56) hx hb dX8_judge_10 (by decide) (fun c10 => ?_) (fun c10 => ?_)
    · have h := (if_pos c10).symm.trans h
      exact w_X8_judge_56 X x1 σ _ _ _ h hW (lv_sub hl [0, 1] rfl)
    · have h := (if_neg c10).symm.trans h
      refine lv_iload_n hx hb dX8_judge_13 rfl (lv_at hl 1 rfl) ?_
      refine lv_bipush (v := -9) hx hb dX8_judge_14 rfl ?_
      refine lv_icmp_ne (tgt := 56) hx hb dX8_judge_16 (by decide) (fun c16 => ?_) (fun c16 => ?_)
      · have h := (if_neg c16).symm.trans h
        exact w_X8_judge_56 X x1 σ _ _ _ h hW (lv_sub hl [0, 1] rfl)
      · have h := (if_pos c16).symm.trans h
        refine lv_aload_n hx hb dX8_judge_19 rfl (lv_at hl 0 rfl) ?_
        refine rg_X8_10 X hW dX8_judge_20 ?_
        refine lv_iload_n hx hb dX8_judge_23 rfl (lv_at hl 2 rfl) ?_
        refine rc_X8_232 X hW lb_V1 x2 ⟨⟨rfl, rfl⟩, Nat.le_of_ble_eq_true rfl, Nat.le_of_ble_eq_true rfl⟩ hl.1 (Nat.le_of_ble_eq_true rfl) dX8_judge_24 ⟨Nat.zero_le _, Nat.zero_le _⟩ (fun H locs hW => ?_)
        refine lv_if_eq (tgt := 48) hx hb dX8_judge_27 (by decide) (fun c27 => ?_) (fun c27 => ?_)
        · have h := (if_pos c27).symm.trans h
          refine lv_iload_n hx hb dX8_judge_48 rfl (lv_at hl 2 rfl) ?_
          refine lv_istore_n (lv' := [(1, .int x2), (0, .ref (lb_ad G 0)), (2, .int x2)]) hx hb dX8_judge_49 rfl hl (by decide) rfl (fun ls hl => ?_)
          refine lv_iinc (v := (x2 + 1)) (lv' := [(2, .int (x2 + 1)), (1, .int x2), (0, .ref (lb_ad G 0))]) hx hb dX8_judge_50 hl (k := 2) rfl rfl (by decide) rfl (fun ls hl => ?_)
          refine lv_goto (tgt := 5) hx hb dX8_judge_53 (by decide) ?_
          exact ih x2 (x2 + 1) σ _ _ _ h hW (lv_sub hl [2, 1, 0] rfl)
        · have h := (if_neg c27).symm.trans h
          refine lv_aload_n hx hb dX8_judge_30 rfl (lv_at hl 0 rfl) ?_
          refine rg_X8_10 X hW dX8_judge_31 ?_
          refine rg_X8_98 (k := 12) X hW lb_V1 rfl dX8_judge_34 ?_
          refine lv_iload_n hx hb dX8_judge_37 rfl (lv_at hl 2 rfl) ?_
          obtain ⟨i38, h⟩ := lb_chk_in h
          refine lb_ild X hW (show lb_ar 12 = 7 + 1 from rfl) i38 dX8_judge_38 ?_
          refine lv_aload_n hx hb dX8_judge_39 rfl (lv_at hl 0 rfl) ?_
          refine rg_X8_33 X hW dX8_judge_40 ?_
          refine lv_iload_n hx hb dX8_judge_43 rfl (lv_at hl 2 rfl) ?_
          obtain ⟨i44, h⟩ := lb_chk_in h
          refine lb_ild X hW (show lb_ar 51 = 15 + 1 from rfl) i44 dX8_judge_44 ?_
          refine lv_icmp_eq (tgt := 50) hx hb dX8_judge_45 (by decide) (fun c45 => ?_) (fun c45 => ?_)
          · have h := (if_pos c45).symm.trans h
            refine lv_iinc (v := (x2 + 1)) (lv' := [(2, .int (x2 + 1)), (0, .ref (lb_ad G 0)), (1, .int x1)]) hx hb dX8_judge_50 hl (k := 2) rfl rfl (by decide) rfl (fun ls hl => ?_)
            refine lv_goto (tgt := 5) hx hb dX8_judge_53 (by decide) ?_
            exact ih x1 (x2 + 1) σ _ _ _ h hW (lv_sub hl [1, 2, 0] rfl)
          · have h := (if_neg c45).symm.trans h
            refine lv_iload_n hx hb dX8_judge_48 rfl (lv_at hl 2 rfl) ?_
            refine lv_istore_n (lv' := [(1, .int x2), (0, .ref (lb_ad G 0)), (2, .int x2)]) hx hb dX8_judge_49 rfl hl (by decide) rfl (fun ls hl => ?_)
            refine lv_iinc (v := (x2 + 1)) (lv' := [(2, .int (x2 + 1)), (1, .int x2), (0, .ref (lb_ad G 0))]) hx hb dX8_judge_50 hl (k := 2) rfl rfl (by decide) rfl (fun ls hl => ?_)
            refine lv_goto (tgt := 5) hx hb dX8_judge_53 (by decide) ?_
            exact ih x2 (x2 + 1) σ _ _ _ h hW (lv_sub hl [2, 1, 0] rfl)
def f_X8_judge (σ : lb_Mem) : Option (Int32 × lb_Mem) := f_X8_judge_5 lb_N (-9 : Int32) (0 : Int32) σ
set_option maxRecDepth 20000 in
set_option maxHeartbeats 4000000 in
theorem m_X8_judge (l : Launch) (G : lb_G) (σ : lb_Mem) (qr : (Int32 × lb_Mem)) (h : f_X8_judge σ = some qr) : lb_M l yX8_judge cX8_judge 3 (some .int) rmX8_judge [.ref (lb_ad G 0)] G σ (lb_QI G qr.1 qr.2) := by
  refine lb_start RX8 (by decide +kernel) rfl (Nat.le_of_ble_eq_true rfl) (fun p e s m below meth c X hW ls hl => ?_)
  have hx := X.1
  have hb := X.2.1
  have hl : lv_has ls 3 [(0, .ref (lb_ad G 0))] := hl
  have h : (f_X8_judge_5 lb_N (-9 : Int32) (0 : Int32) σ) = some qr := h
  skip
  refine lv_bipush (v := -9) hx hb dX8_judge_0 rfl ?_
  refine lv_istore_n (lv' := [(1, .int (-9 : Int32)), (0, .ref (lb_ad G 0))]) hx hb dX8_judge_2 rfl hl (by decide) rfl (fun ls hl => ?_)
  refine lv_iconst (v := 0) hx hb dX8_judge_3 rfl ?_
  refine lv_istore_n (lv' := [(2, .int (0 : Int32)), (1, .int (-9 : Int32)), (0, .ref (lb_ad G 0))]) hx hb dX8_judge_4 rfl hl (by decide) rfl (fun ls hl => ?_)
  exact w_X8_judge_5 X lb_N (-9 : Int32) (0 : Int32) σ _ _ _ h hW (lv_sub hl [2, 1, 0] rfl)
abbrev rmX8_clear : Room := { frames := 0, cells := 0, slots := 0, locals := 0 }
def f_X8_clear (σ : lb_Mem) : Option (Int32 × lb_Mem) := lb_let ((σ 0 6)) (fun v4 : Int32 => lb_let (lb_sto σ 0 6 (0 : Int32)) (fun s7 : lb_Mem => some (v4, s7)))
set_option maxRecDepth 20000 in
set_option maxHeartbeats 4000000 in
theorem m_X8_clear (l : Launch) (G : lb_G) (σ : lb_Mem) (qr : (Int32 × lb_Mem)) (h : f_X8_clear σ = some qr) : lb_M l yX8_clear cX8_clear 2 (some .int) rmX8_clear [.ref (lb_ad G 0)] G σ (lb_QI G qr.1 qr.2) := by
  refine lb_start RX8 (by decide +kernel) rfl (Nat.le_of_ble_eq_true rfl) (fun p e s m below meth c X hW ls hl => ?_)
  have hx := X.1
  have hb := X.2.1
  have hl : lv_has ls 2 [(0, .ref (lb_ad G 0))] := hl
  have h : (lb_let ((σ 0 6)) (fun v4 : Int32 => lb_let (lb_sto σ 0 6 (0 : Int32)) (fun s7 : lb_Mem => some (v4, s7)))) = some qr := h
  skip
  refine lv_aload_n hx hb dX8_clear_0 rfl (lv_at hl 0 rfl) ?_
  refine rg_X8_37 X hW dX8_clear_1 ?_
  refine lv_topi (fun v4 e4 => ?_)
  have h := lb_letI e4 h
  refine lv_istore_n (lv' := [(1, .int v4), (0, .ref (lb_ad G 0))]) hx hb dX8_clear_4 rfl hl (by decide) rfl (fun ls hl => ?_)
  refine lv_aload_n hx hb dX8_clear_5 rfl (lv_at hl 1 rfl) ?_
  refine lv_iconst (v := 0) hx hb dX8_clear_6 rfl ?_
  refine rp_X8_37 X hW dX8_clear_7 (fun H locs hW => ?_)
  obtain ⟨s7, e7⟩ : ∃ z, z = lb_sto σ 0 6 (0 : Int32) := ⟨_, rfl⟩
  rw [← e7] at hW
  have h := lb_letI e7 h
  refine lv_iload_n hx hb dX8_clear_10 rfl (lv_at hl 0 rfl) ?_
  obtain rfl := Option.some.inj h
  exact lb_iret X hW dX8_clear_11
abbrev rmX8_nextSeed : Room := { frames := 0, cells := 0, slots := 0, locals := 0 }
def f_X8_nextSeed (x0 : Int32) : Int32 := ((x0 * (1664525 : Int32)) + (1013904223 : Int32))
set_option maxRecDepth 20000 in
set_option maxHeartbeats 4000000 in
theorem m_X8_nextSeed (l : Launch) (G : lb_G) (σ : lb_Mem) (x0 : Int32) (qr : Int32) (h : f_X8_nextSeed x0 = qr) : lb_M l yX8_nextSeed cX8_nextSeed 1 (some .int) rmX8_nextSeed [.int x0] G σ (lb_QI G qr σ) := by
  refine lb_start RX8 (by decide +kernel) rfl (Nat.le_of_ble_eq_true rfl) (fun p e s m below meth c X hW ls hl => ?_)
  have hx := X.1
  have hb := X.2.1
  have hl : lv_has ls 1 [(0, .int x0)] := hl
  have h : (((x0 * (1664525 : Int32)) + (1013904223 : Int32))) = qr := h
  skip
  refine lv_iload_n hx hb dX8_nextSeed_0 rfl (lv_at hl 0 rfl) ?_
  refine lv_ldc (v := 1664525) hx hb X.2.2.2.1 (X.2.2.2.2.1 _ qw_734) dX8_nextSeed_1 ?_
  refine lv_imul hx hb dX8_nextSeed_3 ?_
  refine lv_ldc (v := 1013904223) hx hb X.2.2.2.1 (X.2.2.2.2.1 _ qw_735) dX8_nextSeed_4 ?_
  refine lv_iadd hx hb dX8_nextSeed_6 ?_
  subst h
  exact lb_iret X hW dX8_nextSeed_7
abbrev rmX8_drawn : Room := { frames := 1, cells := 0, slots := 0, locals := 16 }
def f_X8_drawn (x0 : Int32) (x1 : Int32) : Option Int32 := lb_chk ((if (1 : Int32) < x1 then x1 else (1 : Int32)) != 0) (some (((x0 &&& (2147483647 : Int32)) / (256 : Int32)) - ((x0 &&& (2147483647 : Int32)) / (256 : Int32)) / (if (1 : Int32) < x1 then x1 else (1 : Int32)) * (if (1 : Int32) < x1 then x1 else (1 : Int32))))
set_option maxRecDepth 20000 in
set_option maxHeartbeats 4000000 in
theorem m_X8_drawn (l : Launch) (G : lb_G) (σ : lb_Mem) (x0 : Int32) (x1 : Int32) (qr : Int32) (h : f_X8_drawn x0 x1 = some qr) : lb_M l yX8_drawn cX8_drawn 2 (some .int) rmX8_drawn [.int x0, .int x1] G σ (lb_QI G qr σ) := by
  refine lb_start RX8 (by decide +kernel) rfl (Nat.le_of_ble_eq_true rfl) (fun p e s m below meth c X hW ls hl => ?_)
  have hx := X.1
  have hb := X.2.1
  have hl : lv_has ls 2 [(0, .int x0), (1, .int x1)] := hl
  have h : (lb_chk ((if (1 : Int32) < x1 then x1 else (1 : Int32)) != 0) (some (((x0 &&& (2147483647 : Int32)) / (256 : Int32)) - ((x0 &&& (2147483647 : Int32)) / (256 : Int32)) / (if (1 : Int32) < x1 then x1 else (1 : Int32)) * (if (1 : Int32) < x1 then x1 else (1 : Int32))))) = some qr := h
  skip
  refine lv_iload_n hx hb dX8_drawn_0 rfl (lv_at hl 0 rfl) ?_
  refine lv_ldc (v := 2147483647) hx hb X.2.2.2.1 (X.2.2.2.2.1 _ qw_739) dX8_drawn_1 ?_
  refine lv_iand hx hb dX8_drawn_3 ?_
  refine lv_sipush (v := 256) hx hb dX8_drawn_4 rfl ?_
  refine lv_idiv hx hb dX8_drawn_7 (by decide) ?_
  refine lv_iconst (v := 1) hx hb dX8_drawn_8 rfl ?_
  refine lv_iload_n hx hb dX8_drawn_9 rfl (lv_at hl 1 rfl) ?_
  refine va_mmax hx hb (by rw [X.2.2.1]; exact hl.1.symm) X.2.2.2.1 (X.2.2.2.2.1 _ qw_454) (X.2.2.2.2.1 _ qw_278) (X.2.2.2.2.1 _ qw_55) (X.2.2.2.2.1 _ qw_279) (Nat.le_of_ble_eq_true rfl) (Nat.le_of_ble_eq_true rfl) (Nat.zero_le _) (Nat.zero_le _) dX8_drawn_10 ?_
  obtain ⟨z13, h⟩ := lb_chk_nz h
  refine lv_irem hx hb dX8_drawn_13 z13 ?_
  obtain rfl := Option.some.inj h
  exact lb_iret X hW dX8_drawn_14
theorem rc_X8_235 {p : Program} {l : Launch} {e : Env} {R : Room} {s : State} {m : MethodId} {args : Array Value} {below : List Frame} {meth : Method} {c : Code} {H : Heap} {locs : List Loc} {cells slots : Nat} {Q : State → Prop} {cc : ByteArray} {pc nL : Nat} {ls : Array Slot} {rest : List Value} {G : lb_G} {σ : lb_Mem} {ret : Option FieldType} (X : lb_C G p s m args meth c cc nL RX8 ret) (hW : lb_W G s σ H locs) (x0 : Int32) (hR : lb_room rmX8_nextSeed R 1) (hls : ls.size = nL) (hrest : (rest.map fun v => v.category).sum ≤ 8) (d : decode cc pc = .ok (.invokestatic 235, 3)) (hcap : cells ≤ R.cells ∧ slots ≤ R.slots) (kk : ∀ (H1 : Heap) (locs1 : List Loc), lb_W G s σ H1 locs1 → W p l e R s m args below meth c H1 locs1 cells slots Q (F0 m (pc + 3) ls (.int (f_X8_nextSeed x0) :: rest))) : W p l e R s m args below meth c H locs cells slots Q (F0 m pc ls (.int x0 :: rest)) :=
  lb_goI hW (lb_runS (As := [.int x0]) X hW (m_X8_nextSeed l G σ x0 _ rfl) (n := 1) ⟨qw_731, qw_43, qw_733, by decide +kernel⟩ hR qw_732 rfl hls hrest d hcap) kk
theorem rc_X8_238 {p : Program} {l : Launch} {e : Env} {R : Room} {s : State} {m : MethodId} {args : Array Value} {below : List Frame} {meth : Method} {c : Code} {H : Heap} {locs : List Loc} {cells slots : Nat} {Q : State → Prop} {cc : ByteArray} {pc nL : Nat} {ls : Array Slot} {rest : List Value} {G : lb_G} {σ : lb_Mem} {ret : Option FieldType} (X : lb_C G p s m args meth c cc nL RX8 ret) (hW : lb_W G s σ H locs) {x0 : Int32} {x1 : Int32} {qr : Int32} (h : f_X8_drawn x0 x1 = some qr) (hR : lb_room rmX8_drawn R 2) (hls : ls.size = nL) (hrest : (rest.map fun v => v.category).sum ≤ 8) (d : decode cc pc = .ok (.invokestatic 238, 3)) (hcap : cells ≤ R.cells ∧ slots ≤ R.slots) (kk : ∀ (H1 : Heap) (locs1 : List Loc), lb_W G s σ H1 locs1 → W p l e R s m args below meth c H1 locs1 cells slots Q (F0 m (pc + 3) ls (.int qr :: rest))) : W p l e R s m args below meth c H locs cells slots Q (F0 m pc ls (.int x1 :: .int x0 :: rest)) :=
  lb_goI hW (lb_runS (As := [.int x0, .int x1]) X hW (m_X8_drawn l G σ x0 x1 qr h) (n := 2) ⟨qw_736, qw_43, qw_738, by decide +kernel⟩ hR qw_737 rfl hls hrest d hcap) kk
theorem rc_X8_241 {p : Program} {l : Launch} {e : Env} {R : Room} {s : State} {m : MethodId} {args : Array Value} {below : List Frame} {meth : Method} {c : Code} {H : Heap} {locs : List Loc} {cells slots : Nat} {Q : State → Prop} {cc : ByteArray} {pc nL : Nat} {ls : Array Slot} {rest : List Value} {G : lb_G} {σ : lb_Mem} {ret : Option FieldType} (X : lb_C G p s m args meth c cc nL RX8 ret) (hW : lb_W G s σ H locs) {b0 : Nat} (hb0 : lb_V b0) {qr : Int32} (h : f_X7_withoutGrace σ b0 = some qr) (hR : lb_room rmX7_withoutGrace R 3) (hls : ls.size = nL) (hrest : (rest.map fun v => v.category).sum ≤ 8) (d : decode cc pc = .ok (.invokevirtual 241, 3)) (hcap : cells ≤ R.cells ∧ slots ≤ R.slots) (kk : ∀ (H1 : Heap) (locs1 : List Loc), lb_W G s σ H1 locs1 → W p l e R s m args below meth c H1 locs1 cells slots Q (F0 m (pc + 3) ls (.int qr :: rest))) : W p l e R s m args below meth c H locs cells slots Q (F0 m pc ls (.ref (lb_ad G b0) :: rest)) :=
  lb_goI hW (lb_runV (As := []) X hW (m_X7_withoutGrace l G σ hb0 qr h) (n := 0) ⟨qw_740, qw_44, qw_743, by decide +kernel⟩ hR qw_741 qw_742 (lb_isV hb0) rfl hls hrest d hcap) kk
abbrev rmX8_lots : Room := { frames := 6, cells := 0, slots := 0, locals := 141 }
def f_X8_lots_61 (kc41 : Int32 → Int32 → Int32 → Int32 → Int32 → Int32 → lb_Mem → Option (Int32 × lb_Mem)) : Nat → Int32 → Int32 → Int32 → Int32 → Int32 → Int32 → Int32 → lb_Mem → Option (Int32 × lb_Mem)
  | 0, _, _, _, _, _, _, _, _ => none
  | n + 1, x1, x3, x5, x6, x7, x8, x9, σ => if (σ 17 9) ≤ x9 then (f_X7_pass 17 (6 : Int32) σ).bind (fun s133 => (f_X7_allGrace s133 17).bind (fun q142 => lb_let ((x6 + q142)) (fun v146 : Int32 => (f_X7_withoutGrace s133 17).bind (fun q154 => lb_let ((x7 + q154)) (fun v158 : Int32 => kc41 x1 x3 x5 v146 v158 (x8 + 1) s133))))) else lb_let ((f_X8_nextSeed x5)) (fun v78 : Int32 => (f_X8_drawn v78 (7 : Int32)).bind (fun q93 => lb_chk (lb_ix x9 8) (lb_let (lb_sto σ 28 x9.toNatClampNeg q93) (fun s96 : lb_Mem => lb_let ((f_X8_nextSeed v78)) (fun v102 : Int32 => (f_X8_drawn v102 (10 : Int32)).bind (fun q117 => lb_chk (lb_ix x9 8) (lb_let (lb_sto s96 29 x9.toNatClampNeg q117) (fun s120 : lb_Mem => f_X8_lots_61 kc41 n x1 x3 v102 x6 x7 x8 (x9 + 1) s120))))))))
set_option maxRecDepth 20000 in
set_option maxHeartbeats 4000000 in
theorem w_X8_lots_61 {p : Program} {l : Launch} {e : Env} {s : State} {m : MethodId} {args : Array Value} {below : List Frame} {meth : Method} {c : Code} {G : lb_G} {qr : (Int32 × lb_Mem)} (X : lb_C G p s m args meth c cX8_lots 10 RX8 (some .int)) {kc41 : Int32 → Int32 → Int32 → Int32 → Int32 → Int32 → lb_Mem → Option (Int32 × lb_Mem)} (hc41 : ∀ (x1 : Int32) (x3 : Int32) (x5 : Int32) (x6 : Int32) (x7 : Int32) (x8 : Int32) (σ : lb_Mem) (H : Heap) (locs : List Loc) (ls : Array Slot), kc41 x1 x3 x5 x6 x7 x8 σ = some qr → lb_W G s σ H locs → lv_has ls 10 [(0, .ref (lb_ad G 0)), (1, .int x1), (3, .int x3), (5, .int x5), (6, .int x6), (7, .int x7), (8, .int x8)] → W p l e rmX8_lots s m args below meth c H locs 0 0 (MQ below (lb_QI G qr.1 qr.2) args s 0 0 (lb_A G)) (F0 m 41 ls [])) : ∀ (n : Nat) (x1 : Int32) (x3 : Int32) (x5 : Int32) (x6 : Int32) (x7 : Int32) (x8 : Int32) (x9 : Int32) (σ : lb_Mem) (H : Heap) (locs : List Loc) (ls : Array Slot), f_X8_lots_61 kc41 n x1 x3 x5 x6 x7 x8 x9 σ = some qr → lb_W G s σ H locs → lv_has ls 10 [(0, .ref (lb_ad G 0)), (1, .int x1), (3, .int x3), (5, .int x5), (6, .int x6), (7, .int x7), (8, .int x8), (9, .int x9)] → W p l e rmX8_lots s m args below meth c H locs 0 0 (MQ below (lb_QI G qr.1 qr.2) args s 0 0 (lb_A G)) (F0 m 61 ls []) := by
  have hx := X.1
  have hb := X.2.1
  intro n
  induction n with
  | zero => intro x1 x3 x5 x6 x7 x8 x9 σ H locs ls h hW hl; exact absurd h (fun z => by cases z)
  | succ n ih =>
    intro x1 x3 x5 x6 x7 x8 x9 σ H locs ls h hW hl
    have h : (if (σ 17 9) ≤ x9 then (f_X7_pass 17 (6 : Int32) σ).bind (fun s133 => (f_X7_allGrace s133 17).bind (fun q142 => lb_let ((x6 + q142)) (fun v146 : Int32 => (f_X7_withoutGrace s133 17).bind (fun q154 => lb_let ((x7 + q154)) (fun v158 : Int32 => kc41 x1 x3 x5 v146 v158 (x8 + 1) s133))))) else lb_let ((f_X8_nextSeed x5)) (fun v78 : Int32 => (f_X8_drawn v78 (7 : Int32)).bind (fun q93 => lb_chk (lb_ix x9 8) (lb_let (lb_sto σ 28 x9.toNatClampNeg q93) (fun s96 : lb_Mem => lb_let ((f_X8_nextSeed v78)) (fun v102 : Int32 => (f_X8_drawn v102 (10 : Int32)).bind (fun q117 => lb_chk (lb_ix x9 8) (lb_let (lb_sto s96 29 x9.toNatClampNeg q117) (fun s120 : lb_Mem => f_X8_lots_61 kc41 n x1 x3 v102 x6 x7 x8 (x9 + 1) s120))))))))) = some qr := h
    refine lv_iload hx hb dX8_lots_61 (lv_at hl 7 rfl) ?_
    refine lv_aload_n hx hb dX8_lots_63 rfl (lv_at hl 0 rfl) ?_
    refine rg_X8_16 X hW dX8_lots_64 ?_
    refine rg_X8_165 X hW lb_V17 dX8_lots_67 ?_
    refine lv_icmp_ge (tgt := 127) hx hb dX8_lots_70 (by decide) (fun c70 => ?_) (fun c70 => ?_)
    · have h := (if_pos c70).symm.trans h
      refine lv_aload_n hx hb dX8_lots_127 rfl (lv_at hl 0 rfl) ?_
      refine rg_X8_16 X hW dX8_lots_128 ?_
      refine lv_bipush (v := 6) hx hb dX8_lots_131 rfl ?_
      obtain ⟨s133, e133, h⟩ := lb_bind h
      refine rc_X8_140 X hW lb_V17 e133 ⟨⟨rfl, rfl⟩, Nat.le_of_ble_eq_true rfl, Nat.le_of_ble_eq_true rfl⟩ hl.1 (Nat.le_of_ble_eq_true rfl) dX8_lots_133 ⟨Nat.zero_le _, Nat.zero_le _⟩ (fun H locs hW => ?_)
      refine lv_iload hx hb dX8_lots_136 (lv_at hl 4 rfl) ?_
      refine lv_aload_n hx hb dX8_lots_138 rfl (lv_at hl 0 rfl) ?_
      refine rg_X8_16 X hW dX8_lots_139 ?_
      obtain ⟨q142, e142, h⟩ := lb_bind h
      refine rc_X8_143 X hW lb_V17 e142 ⟨⟨rfl, rfl⟩, Nat.le_of_ble_eq_true rfl, Nat.le_of_ble_eq_true rfl⟩ hl.1 (Nat.le_of_ble_eq_true rfl) dX8_lots_142 ⟨Nat.zero_le _, Nat.zero_le _⟩ (fun H locs hW => ?_)
      refine lv_iadd hx hb dX8_lots_145 ?_
      refine lv_topi (fun v146 e146 => ?_)
      have h := lb_letI e146 h
      refine lv_istore (lv' := [(6, .int v146), (0, .ref (lb_ad G 0)), (1, .int x1), (3, .int x3), (5, .int x5), (7, .int x7), (8, .int x8), (9, .int x9)]) hx hb dX8_lots_146 hl (by decide) rfl (fun ls hl => ?_)
      refine lv_iload hx hb dX8_lots_148 (lv_at hl 5 rfl) ?_
      refine lv_aload_n hx hb dX8_lots_150 rfl (lv_at hl 1 rfl) ?_
      refine rg_X8_16 X hW dX8_lots_151 ?_
      obtain ⟨q154, e154, h⟩ := lb_bind h
      refine rc_X8_241 X hW lb_V17 e154 ⟨⟨rfl, rfl⟩, Nat.le_of_ble_eq_true rfl, Nat.le_of_ble_eq_true rfl⟩ hl.1 (Nat.le_of_ble_eq_true rfl) dX8_lots_154 ⟨Nat.zero_le _, Nat.zero_le _⟩ (fun H locs hW => ?_)
      refine lv_iadd hx hb dX8_lots_157 ?_
      refine lv_topi (fun v158 e158 => ?_)
      have h := lb_letI e158 h
      refine lv_istore (lv' := [(7, .int v158), (6, .int v146), (0, .ref (lb_ad G 0)), (1, .int x1), (3, .int x3), (5, .int x5), (8, .int x8), (9, .int x9)]) hx hb dX8_lots_158 hl (by decide) rfl (fun ls hl => ?_)
      refine lv_iinc (v := (x8 + 1)) (lv' := [(8, .int (x8 + 1)), (7, .int v158), (6, .int v146), (0, .ref (lb_ad G 0)), (1, .int x1), (3, .int x3), (5, .int x5), (9, .int x9)]) hx hb dX8_lots_160 hl (k := 6) rfl rfl (by decide) rfl (fun ls hl => ?_)
      refine lv_goto (tgt := 41) hx hb dX8_lots_163 (by decide) ?_
      exact hc41 x1 x3 x5 v146 v158 (x8 + 1) s133 _ _ _ h hW (lv_sub hl [3, 4, 5, 6, 2, 1, 0] rfl)
    · have h := (if_neg c70).symm.trans h
      refine lv_iload hx hb dX8_lots_73 (lv_at hl 3 rfl) ?_
      refine rc_X8_235 X hW x5 ⟨⟨rfl, rfl⟩, Nat.le_of_ble_eq_true rfl, Nat.le_of_ble_eq_true rfl⟩ hl.1 (Nat.le_of_ble_eq_true rfl) dX8_lots_75 ⟨Nat.zero_le _, Nat.zero_le _⟩ (fun H locs hW => ?_)
      refine lv_topi (fun v78 e78 => ?_)
      have h := lb_letI e78 h
      refine lv_istore (lv' := [(5, .int v78), (0, .ref (lb_ad G 0)), (1, .int x1), (3, .int x3), (6, .int x6), (7, .int x7), (8, .int x8), (9, .int x9)]) hx hb dX8_lots_78 hl (by decide) rfl (fun ls hl => ?_)
      refine lv_aload_n hx hb dX8_lots_80 rfl (lv_at hl 1 rfl) ?_
      refine rg_X8_16 X hW dX8_lots_81 ?_
      refine rg_X8_98 (k := 28) X hW lb_V17 rfl dX8_lots_84 ?_
      refine lv_iload hx hb dX8_lots_87 (lv_at hl 7 rfl) ?_
      refine lv_iload hx hb dX8_lots_89 (lv_at hl 0 rfl) ?_
      refine lv_bipush (v := 7) hx hb dX8_lots_91 rfl ?_
      obtain ⟨q93, e93, h⟩ := lb_bind h
      refine rc_X8_238 X hW e93 ⟨⟨rfl, rfl⟩, Nat.le_of_ble_eq_true rfl, Nat.le_of_ble_eq_true rfl⟩ hl.1 (Nat.le_of_ble_eq_true rfl) dX8_lots_93 ⟨Nat.zero_le _, Nat.zero_le _⟩ (fun H locs hW => ?_)
      obtain ⟨i96, h⟩ := lb_chk_in h
      refine lb_ist X hW (show lb_ar 28 = 7 + 1 from rfl) i96 dX8_lots_96 (fun H locs hW => ?_)
      obtain ⟨s96, e96⟩ : ∃ z, z = lb_sto σ 28 x9.toNatClampNeg q93 := ⟨_, rfl⟩
      rw [← e96] at hW
      have h := lb_letI e96 h
      refine lv_iload hx hb dX8_lots_97 (lv_at hl 0 rfl) ?_
      refine rc_X8_235 X hW v78 ⟨⟨rfl, rfl⟩, Nat.le_of_ble_eq_true rfl, Nat.le_of_ble_eq_true rfl⟩ hl.1 (Nat.le_of_ble_eq_true rfl) dX8_lots_99 ⟨Nat.zero_le _, Nat.zero_le _⟩ (fun H locs hW => ?_)
      refine lv_topi (fun v102 e102 => ?_)
      have h := lb_letI e102 h
      refine lv_istore (lv' := [(5, .int v102), (0, .ref (lb_ad G 0)), (1, .int x1), (3, .int x3), (6, .int x6), (7, .int x7), (8, .int x8), (9, .int x9)]) hx hb dX8_lots_102 hl (by decide) rfl (fun ls hl => ?_)
      refine lv_aload_n hx hb dX8_lots_104 rfl (lv_at hl 1 rfl) ?_
      refine rg_X8_16 X hW dX8_lots_105 ?_
      refine rg_X8_101 (k := 29) X hW lb_V17 rfl dX8_lots_108 ?_
      refine lv_iload hx hb dX8_lots_111 (lv_at hl 7 rfl) ?_
      refine lv_iload hx hb dX8_lots_113 (lv_at hl 0 rfl) ?_
      refine lv_bipush (v := 10) hx hb dX8_lots_115 rfl ?_
      obtain ⟨q117, e117, h⟩ := lb_bind h
      refine rc_X8_238 X hW e117 ⟨⟨rfl, rfl⟩, Nat.le_of_ble_eq_true rfl, Nat.le_of_ble_eq_true rfl⟩ hl.1 (Nat.le_of_ble_eq_true rfl) dX8_lots_117 ⟨Nat.zero_le _, Nat.zero_le _⟩ (fun H locs hW => ?_)
      obtain ⟨i120, h⟩ := lb_chk_in h
      refine lb_ist X hW (show lb_ar 29 = 7 + 1 from rfl) i120 dX8_lots_120 (fun H locs hW => ?_)
      obtain ⟨s120, e120⟩ : ∃ z, z = lb_sto s96 29 x9.toNatClampNeg q117 := ⟨_, rfl⟩
      rw [← e120] at hW
      have h := lb_letI e120 h
      refine lv_iinc (v := (x9 + 1)) (lv' := [(9, .int (x9 + 1)), (5, .int v102), (0, .ref (lb_ad G 0)), (1, .int x1), (3, .int x3), (6, .int x6), (7, .int x7), (8, .int x8)]) hx hb dX8_lots_121 hl (k := 7) rfl rfl (by decide) rfl (fun ls hl => ?_)
      refine lv_goto (tgt := 61) hx hb dX8_lots_124 (by decide) ?_
      exact ih x1 x3 v102 x6 x7 x8 (x9 + 1) s120 _ _ _ h hW (lv_sub hl [2, 3, 4, 1, 5, 6, 7, 0] rfl)
def f_X8_lots_41 : Nat → Int32 → Int32 → Int32 → Int32 → Int32 → Int32 → lb_Mem → Option (Int32 × lb_Mem)
  | 0, _, _, _, _, _, _, _ => none
  | n + 1, x1, x3, x5, x6, x7, x8, σ => if x1 ≤ x8 then if x3 = 0 then some (x6, σ) else some (x7, σ) else (f_X7_become 17 1 σ).bind (fun s55 => f_X8_lots_61 (fun (x1 : Int32) (x3 : Int32) (x5 : Int32) (x6 : Int32) (x7 : Int32) (x8 : Int32) (σ : lb_Mem) => f_X8_lots_41 n x1 x3 x5 x6 x7 x8 σ) lb_N x1 x3 x5 x6 x7 x8 (0 : Int32) s55)
set_option maxRecDepth 20000 in
set_option maxHeartbeats 4000000 in
theorem w_X8_lots_41 {p : Program} {l : Launch} {e : Env} {s : State} {m : MethodId} {args : Array Value} {below : List Frame} {meth : Method} {c : Code} {G : lb_G} {qr : (Int32 × lb_Mem)} (X : lb_C G p s m args meth c cX8_lots 10 RX8 (some .int)) : ∀ (n : Nat) (x1 : Int32) (x3 : Int32) (x5 : Int32) (x6 : Int32) (x7 : Int32) (x8 : Int32) (σ : lb_Mem) (H : Heap) (locs : List Loc) (ls : Array Slot), f_X8_lots_41 n x1 x3 x5 x6 x7 x8 σ = some qr → lb_W G s σ H locs → lv_has ls 10 [(0, .ref (lb_ad G 0)), (1, .int x1), (3, .int x3), (5, .int x5), (6, .int x6), (7, .int x7), (8, .int x8)] → W p l e rmX8_lots s m args below meth c H locs 0 0 (MQ below (lb_QI G qr.1 qr.2) args s 0 0 (lb_A G)) (F0 m 41 ls []) := by
  have hx := X.1
  have hb := X.2.1
  intro n
  induction n with
  | zero => intro x1 x3 x5 x6 x7 x8 σ H locs ls h hW hl; exact absurd h (fun z => by cases z)
  | succ n ih =>
    intro x1 x3 x5 x6 x7 x8 σ H locs ls h hW hl
    have h : (if x1 ≤ x8 then if x3 = 0 then some (x6, σ) else some (x7, σ) else (f_X7_become 17 1 σ).bind (fun s55 => f_X8_lots_61 (fun (x1 : Int32) (x3 : Int32) (x5 : Int32) (x6 : Int32) (x7 : Int32) (x8 : Int32) (σ : lb_Mem) => f_X8_lots_41 n x1 x3 x5 x6 x7 x8 σ) lb_N x1 x3 x5 x6 x7 x8 (0 : Int32) s55)) = some qr := h
    refine lv_iload hx hb dX8_lots_41 (lv_at hl 6 rfl) ?_
    refine lv_iload_n hx hb dX8_lots_43 rfl (lv_at hl 1 rfl) ?_
    refine lv_icmp_ge (tgt := 166) hx hb dX8_lots_44 (by decide) (fun c44 => ?_) (fun c44 => ?_)
    · have h := (if_pos c44).symm.trans h
      refine lv_iload_n hx hb dX8_lots_166 rfl (lv_at hl 2 rfl) ?_
      refine lv_if_ne (tgt := 175) hx hb dX8_lots_167 (by decide) (fun c167 => ?_) (fun c167 => ?_)
      · have h := (if_neg c167).symm.trans h
        refine lv_iload hx hb dX8_lots_175 (lv_at hl 5 rfl) ?_
        obtain rfl := Option.some.inj h
        exact lb_iret X hW dX8_lots_177
      · have h := (if_pos c167).symm.trans h
        refine lv_iload hx hb dX8_lots_170 (lv_at hl 4 rfl) ?_
        refine lv_goto (tgt := 177) hx hb dX8_lots_172 (by decide) ?_
        obtain rfl := Option.some.inj h
        exact lb_iret X hW dX8_lots_177
    · have h := (if_neg c44).symm.trans h
      refine lv_aload_n hx hb dX8_lots_47 rfl (lv_at hl 0 rfl) ?_
      refine rg_X8_16 X hW dX8_lots_48 ?_
      refine lv_aload_n hx hb dX8_lots_51 rfl (lv_at hl 0 rfl) ?_
      refine rg_X8_10 X hW dX8_lots_52 ?_
      obtain ⟨s55, e55, h⟩ := lb_bind h
      refine rc_X8_67 X hW lb_V17 lb_V1 e55 ⟨⟨rfl, rfl⟩, Nat.le_of_ble_eq_true rfl, Nat.le_of_ble_eq_true rfl⟩ hl.1 (Nat.le_of_ble_eq_true rfl) dX8_lots_55 ⟨Nat.zero_le _, Nat.zero_le _⟩ (fun H locs hW => ?_)
      refine lv_iconst (v := 0) hx hb dX8_lots_58 rfl ?_
      refine lv_istore (lv' := [(9, .int (0 : Int32)), (0, .ref (lb_ad G 0)), (1, .int x1), (3, .int x3), (5, .int x5), (6, .int x6), (7, .int x7), (8, .int x8)]) hx hb dX8_lots_59 hl (by decide) rfl (fun ls hl => ?_)
      exact w_X8_lots_61 X ih lb_N x1 x3 x5 x6 x7 x8 (0 : Int32) s55 _ _ _ h hW (lv_sub hl [1, 2, 3, 4, 5, 6, 7, 0] rfl)
def f_X8_lots (x1 : Int32) (x2 : Int32) (x3 : Int32) (σ : lb_Mem) : Option (Int32 × lb_Mem) := lb_let ((f_X8_first (f_X8_within x1 (1 : Int32) (20 : Int32)) (f_X8_known x3 (1 : Int32)))) (fun v15 : Int32 => if v15 = 0 then f_X8_lots_41 lb_N x1 x3 x2 (0 : Int32) (0 : Int32) (0 : Int32) σ else (f_X8_refuse v15 σ).bind (fun q25 => some (q25.1, q25.2)))
set_option maxRecDepth 20000 in
set_option maxHeartbeats 4000000 in
theorem m_X8_lots (l : Launch) (G : lb_G) (σ : lb_Mem) (x1 : Int32) (x2 : Int32) (x3 : Int32) (qr : (Int32 × lb_Mem)) (h : f_X8_lots x1 x2 x3 σ = some qr) : lb_M l yX8_lots cX8_lots 10 (some .int) rmX8_lots [.ref (lb_ad G 0), .int x1, .int x2, .int x3] G σ (lb_QI G qr.1 qr.2) := by
  refine lb_start RX8 (by decide +kernel) rfl (Nat.le_of_ble_eq_true rfl) (fun p e s m below meth c X hW ls hl => ?_)
  have hx := X.1
  have hb := X.2.1
  have hl : lv_has ls 10 [(0, .ref (lb_ad G 0)), (1, .int x1), (2, .int x2), (3, .int x3)] := hl
  have h : (lb_let ((f_X8_first (f_X8_within x1 (1 : Int32) (20 : Int32)) (f_X8_known x3 (1 : Int32)))) (fun v15 : Int32 => if v15 = 0 then f_X8_lots_41 lb_N x1 x3 x2 (0 : Int32) (0 : Int32) (0 : Int32) σ else (f_X8_refuse v15 σ).bind (fun q25 => some (q25.1, q25.2)))) = some qr := h
  skip
  refine lv_iload_n hx hb dX8_lots_0 rfl (lv_at hl 1 rfl) ?_
  refine lv_iconst (v := 1) hx hb dX8_lots_1 rfl ?_
  refine lv_bipush (v := 20) hx hb dX8_lots_2 rfl ?_
  refine rc_X8_44 X hW x1 (1 : Int32) (20 : Int32) ⟨⟨rfl, rfl⟩, Nat.le_of_ble_eq_true rfl, Nat.le_of_ble_eq_true rfl⟩ hl.1 (Nat.le_of_ble_eq_true rfl) dX8_lots_4 ⟨Nat.zero_le _, Nat.zero_le _⟩ (fun H locs hW => ?_)
  refine lv_iload_n hx hb dX8_lots_7 rfl (lv_at hl 3 rfl) ?_
  refine lv_iconst (v := 1) hx hb dX8_lots_8 rfl ?_
  refine rc_X8_86 X hW x3 (1 : Int32) ⟨⟨rfl, rfl⟩, Nat.le_of_ble_eq_true rfl, Nat.le_of_ble_eq_true rfl⟩ hl.1 (Nat.le_of_ble_eq_true rfl) dX8_lots_9 ⟨Nat.zero_le _, Nat.zero_le _⟩ (fun H locs hW => ?_)
  refine rc_X8_51 X hW (f_X8_within x1 (1 : Int32) (20 : Int32)) (f_X8_known x3 (1 : Int32)) ⟨⟨rfl, rfl⟩, Nat.le_of_ble_eq_true rfl, Nat.le_of_ble_eq_true rfl⟩ hl.1 (Nat.le_of_ble_eq_true rfl) dX8_lots_12 ⟨Nat.zero_le _, Nat.zero_le _⟩ (fun H locs hW => ?_)
  refine lv_topi (fun v15 e15 => ?_)
  have h := lb_letI e15 h
  refine lv_istore (lv' := [(4, .int v15), (0, .ref (lb_ad G 0)), (1, .int x1), (2, .int x2), (3, .int x3)]) hx hb dX8_lots_15 hl (by decide) rfl (fun ls hl => ?_)
  refine lv_iload hx hb dX8_lots_17 (lv_at hl 0 rfl) ?_
  refine lv_if_eq (tgt := 29) hx hb dX8_lots_19 (by decide) (fun c19 => ?_) (fun c19 => ?_)
  · have h := (if_pos c19).symm.trans h
    refine lv_iload_n hx hb dX8_lots_29 rfl (lv_at hl 3 rfl) ?_
    refine lv_istore (lv' := [(5, .int x2), (4, .int v15), (0, .ref (lb_ad G 0)), (1, .int x1), (2, .int x2), (3, .int x3)]) hx hb dX8_lots_30 hl (by decide) rfl (fun ls hl => ?_)
    refine lv_iconst (v := 0) hx hb dX8_lots_32 rfl ?_
    refine lv_istore (lv' := [(6, .int (0 : Int32)), (5, .int x2), (4, .int v15), (0, .ref (lb_ad G 0)), (1, .int x1), (2, .int x2), (3, .int x3)]) hx hb dX8_lots_33 hl (by decide) rfl (fun ls hl => ?_)
    refine lv_iconst (v := 0) hx hb dX8_lots_35 rfl ?_
    refine lv_istore (lv' := [(7, .int (0 : Int32)), (6, .int (0 : Int32)), (5, .int x2), (4, .int v15), (0, .ref (lb_ad G 0)), (1, .int x1), (2, .int x2), (3, .int x3)]) hx hb dX8_lots_36 hl (by decide) rfl (fun ls hl => ?_)
    refine lv_iconst (v := 0) hx hb dX8_lots_38 rfl ?_
    refine lv_istore (lv' := [(8, .int (0 : Int32)), (7, .int (0 : Int32)), (6, .int (0 : Int32)), (5, .int x2), (4, .int v15), (0, .ref (lb_ad G 0)), (1, .int x1), (2, .int x2), (3, .int x3)]) hx hb dX8_lots_39 hl (by decide) rfl (fun ls hl => ?_)
    exact w_X8_lots_41 X lb_N x1 x3 x2 (0 : Int32) (0 : Int32) (0 : Int32) σ _ _ _ h hW (lv_sub hl [5, 6, 8, 3, 2, 1, 0] rfl)
  · have h := (if_neg c19).symm.trans h
    refine lv_aload_n hx hb dX8_lots_22 rfl (lv_at hl 1 rfl) ?_
    refine lv_iload hx hb dX8_lots_23 (lv_at hl 0 rfl) ?_
    obtain ⟨q25, e25, h⟩ := lb_bind h
    refine rc_X8_55 X hW e25 ⟨⟨rfl, rfl⟩, Nat.le_of_ble_eq_true rfl, Nat.le_of_ble_eq_true rfl⟩ hl.1 (Nat.le_of_ble_eq_true rfl) dX8_lots_25 ⟨Nat.zero_le _, Nat.zero_le _⟩ (fun H locs hW => ?_)
    obtain rfl := Option.some.inj h
    exact lb_iret X hW dX8_lots_28
abbrev rmX8_image : Room := { frames := 2, cells := 0, slots := 0, locals := 39 }
def f_X8_image (σ : lb_Mem) : Option (Int32 × lb_Mem) := (f_X7_become 33 1 σ).bind (fun s8 => lb_let (lb_sto s8 0 3 (1 : Int32)) (fun s13 : lb_Mem => some ((s13 1 11), s13)))
set_option maxRecDepth 20000 in
set_option maxHeartbeats 4000000 in
theorem m_X8_image (l : Launch) (G : lb_G) (σ : lb_Mem) (qr : (Int32 × lb_Mem)) (h : f_X8_image σ = some qr) : lb_M l yX8_image cX8_image 1 (some .int) rmX8_image [.ref (lb_ad G 0)] G σ (lb_QI G qr.1 qr.2) := by
  refine lb_start RX8 (by decide +kernel) rfl (Nat.le_of_ble_eq_true rfl) (fun p e s m below meth c X hW ls hl => ?_)
  have hx := X.1
  have hb := X.2.1
  have hl : lv_has ls 1 [(0, .ref (lb_ad G 0))] := hl
  have h : ((f_X7_become 33 1 σ).bind (fun s8 => lb_let (lb_sto s8 0 3 (1 : Int32)) (fun s13 : lb_Mem => some ((s13 1 11), s13)))) = some qr := h
  skip
  refine lv_aload_n hx hb dX8_image_0 rfl (lv_at hl 0 rfl) ?_
  refine rg_X8_19 X hW dX8_image_1 ?_
  refine lv_aload_n hx hb dX8_image_4 rfl (lv_at hl 0 rfl) ?_
  refine rg_X8_10 X hW dX8_image_5 ?_
  obtain ⟨s8, e8, h⟩ := lb_bind h
  refine rc_X8_67 X hW lb_V33 lb_V1 e8 ⟨⟨rfl, rfl⟩, Nat.le_of_ble_eq_true rfl, Nat.le_of_ble_eq_true rfl⟩ hl.1 (Nat.le_of_ble_eq_true rfl) dX8_image_8 ⟨Nat.zero_le _, Nat.zero_le _⟩ (fun H locs hW => ?_)
  refine lv_aload_n hx hb dX8_image_11 rfl (lv_at hl 0 rfl) ?_
  refine lv_iconst (v := 1) hx hb dX8_image_12 rfl ?_
  refine rp_X8_22 X hW rfl rfl dX8_image_13 (fun H locs hW => ?_)
  obtain ⟨s13, e13⟩ : ∃ z, z = lb_sto s8 0 3 (1 : Int32) := ⟨_, rfl⟩
  rw [← e13] at hW
  have h := lb_letI e13 h
  refine lv_aload_n hx hb dX8_image_16 rfl (lv_at hl 0 rfl) ?_
  refine rg_X8_10 X hW dX8_image_17 ?_
  refine rg_X8_137 X hW lb_V1 dX8_image_20 ?_
  obtain rfl := Option.some.inj h
  exact lb_iret X hW dX8_image_23
abbrev rmX8_on : Room := { frames := 2, cells := 0, slots := 0, locals := 39 }
def f_X8_on (σ : lb_Mem) : Option (Int32 × lb_Mem) := if (σ 0 3) = 0 then (f_X8_refuse (-3 : Int32) σ).bind (fun q10 => some (q10.1, q10.2)) else (f_X7_become 1 33 σ).bind (fun s22 => some ((s22 1 11), s22))
set_option maxRecDepth 20000 in
set_option maxHeartbeats 4000000 in
theorem m_X8_on (l : Launch) (G : lb_G) (σ : lb_Mem) (qr : (Int32 × lb_Mem)) (h : f_X8_on σ = some qr) : lb_M l yX8_on cX8_on 1 (some .int) rmX8_on [.ref (lb_ad G 0)] G σ (lb_QI G qr.1 qr.2) := by
  refine lb_start RX8 (by decide +kernel) rfl (Nat.le_of_ble_eq_true rfl) (fun p e s m below meth c X hW ls hl => ?_)
  have hx := X.1
  have hb := X.2.1
  have hl : lv_has ls 1 [(0, .ref (lb_ad G 0))] := hl
  have h : (if (σ 0 3) = 0 then (f_X8_refuse (-3 : Int32) σ).bind (fun q10 => some (q10.1, q10.2)) else (f_X7_become 1 33 σ).bind (fun s22 => some ((s22 1 11), s22))) = some qr := h
  skip
  refine lv_aload_n hx hb dX8_on_0 rfl (lv_at hl 0 rfl) ?_
  refine rg_X8_22 X hW dX8_on_1 ?_
  refine lv_if_ne (tgt := 14) hx hb dX8_on_4 (by decide) (fun c4 => ?_) (fun c4 => ?_)
  · have h := (if_neg c4).symm.trans h
    refine lv_aload_n hx hb dX8_on_14 rfl (lv_at hl 0 rfl) ?_
    refine rg_X8_10 X hW dX8_on_15 ?_
    refine lv_aload_n hx hb dX8_on_18 rfl (lv_at hl 0 rfl) ?_
    refine rg_X8_19 X hW dX8_on_19 ?_
    obtain ⟨s22, e22, h⟩ := lb_bind h
    refine rc_X8_67 X hW lb_V1 lb_V33 e22 ⟨⟨rfl, rfl⟩, Nat.le_of_ble_eq_true rfl, Nat.le_of_ble_eq_true rfl⟩ hl.1 (Nat.le_of_ble_eq_true rfl) dX8_on_22 ⟨Nat.zero_le _, Nat.zero_le _⟩ (fun H locs hW => ?_)
    refine lv_aload_n hx hb dX8_on_25 rfl (lv_at hl 0 rfl) ?_
    refine rg_X8_10 X hW dX8_on_26 ?_
    refine rg_X8_137 X hW lb_V1 dX8_on_29 ?_
    obtain rfl := Option.some.inj h
    exact lb_iret X hW dX8_on_32
  · have h := (if_pos c4).symm.trans h
    refine lv_aload_n hx hb dX8_on_7 rfl (lv_at hl 0 rfl) ?_
    refine lv_bipush (v := -3) hx hb dX8_on_8 rfl ?_
    obtain ⟨q10, e10, h⟩ := lb_bind h
    refine rc_X8_55 X hW e10 ⟨⟨rfl, rfl⟩, Nat.le_of_ble_eq_true rfl, Nat.le_of_ble_eq_true rfl⟩ hl.1 (Nat.le_of_ble_eq_true rfl) dX8_on_10 ⟨Nat.zero_le _, Nat.zero_le _⟩ (fun H locs hW => ?_)
    obtain rfl := Option.some.inj h
    exact lb_iret X hW dX8_on_13
theorem rc_X8_244 {p : Program} {l : Launch} {e : Env} {R : Room} {s : State} {m : MethodId} {args : Array Value} {below : List Frame} {meth : Method} {c : Code} {H : Heap} {locs : List Loc} {cells slots : Nat} {Q : State → Prop} {cc : ByteArray} {pc nL : Nat} {ls : Array Slot} {rest : List Value} {G : lb_G} {σ : lb_Mem} {ret : Option FieldType} (X : lb_C G p s m args meth c cc nL RX8 ret) (hW : lb_W G s σ H locs) {b0 : Nat} (hb0 : lb_V b0) {qr : Int32} (h : f_X7_spoons σ b0 = some qr) (hR : lb_room rmX7_spoons R 3) (hls : ls.size = nL) (hrest : (rest.map fun v => v.category).sum ≤ 8) (d : decode cc pc = .ok (.invokevirtual 244, 3)) (hcap : cells ≤ R.cells ∧ slots ≤ R.slots) (kk : ∀ (H1 : Heap) (locs1 : List Loc), lb_W G s σ H1 locs1 → W p l e R s m args below meth c H1 locs1 cells slots Q (F0 m (pc + 3) ls (.int qr :: rest))) : W p l e R s m args below meth c H locs cells slots Q (F0 m pc ls (.ref (lb_ad G b0) :: rest)) :=
  lb_goI hW (lb_runV (As := []) X hW (m_X7_spoons l G σ hb0 qr h) (n := 0) ⟨qw_756, qw_44, qw_759, by decide +kernel⟩ hR qw_757 qw_758 (lb_isV hb0) rfl hls hrest d hcap) kk
abbrev rmX8_count : Room := { frames := 1, cells := 0, slots := 0, locals := 22 }
def f_X8_count_22 (σ : lb_Mem) (x1 : Int32) : Option Int32 := if x1 = 0 then some (σ 1 9) else if x1 = 1 then some (σ 1 10) else if x1 = 2 then some (σ 1 11) else if x1 = 3 then (f_X7_allGrace σ 1).bind (fun q96 => some q96) else if x1 = 4 then (f_X7_spoons σ 1).bind (fun q104 => some q104) else if x1 = 5 then (f_X7_honestPots σ 1).bind (fun q112 => some (f_J6_bitCount_0f7a4 q112)) else if x1 = 6 then some (σ 0 6) else if x1 = 7 then some (σ 49 1) else some (-9 : Int32)
set_option maxRecDepth 20000 in
set_option maxHeartbeats 4000000 in
theorem w_X8_count_22 {p : Program} {l : Launch} {e : Env} {s : State} {m : MethodId} {args : Array Value} {below : List Frame} {meth : Method} {c : Code} {G : lb_G} {σ : lb_Mem} {qr : Int32} (X : lb_C G p s m args meth c cX8_count 2 RX8 (some .int)) : ∀ (x1 : Int32) (H : Heap) (locs : List Loc) (ls : Array Slot), f_X8_count_22 σ x1 = some qr → lb_W G s σ H locs → lv_has ls 2 [(0, .ref (lb_ad G 0)), (1, .int x1)] → W p l e rmX8_count s m args below meth c H locs 0 0 (MQ below (lb_QI G qr σ) args s 0 0 (lb_A G)) (F0 m 22 ls []) := by
  have hx := X.1
  have hb := X.2.1
  intro x1 H locs ls h hW hl
  have h : (if x1 = 0 then some (σ 1 9) else if x1 = 1 then some (σ 1 10) else if x1 = 2 then some (σ 1 11) else if x1 = 3 then (f_X7_allGrace σ 1).bind (fun q96 => some q96) else if x1 = 4 then (f_X7_spoons σ 1).bind (fun q104 => some q104) else if x1 = 5 then (f_X7_honestPots σ 1).bind (fun q112 => some (f_J6_bitCount_0f7a4 q112)) else if x1 = 6 then some (σ 0 6) else if x1 = 7 then some (σ 49 1) else some (-9 : Int32)) = some qr := h
  refine lv_iload_n hx hb dX8_count_22 rfl (lv_at hl 1 rfl) ?_
  by_cases c23_0 : x1 = 0
  · have h := (if_pos c23_0).symm.trans h
    refine lv_tableIn (tgt := 68) hx hb dX8_count_23 (by rw [c23_0]; decide) (by rw [c23_0]; decide) (off := 45) (by rw [c23_0]; rfl) (by decide) ?_
    refine lv_aload_n hx hb dX8_count_68 rfl (lv_at hl 0 rfl) ?_
    refine rg_X8_10 X hW dX8_count_69 ?_
    refine rg_X8_165 X hW lb_V1 dX8_count_72 ?_
    obtain rfl := Option.some.inj h
    exact lb_iret X hW dX8_count_75
  have h := (if_neg c23_0).symm.trans h
  by_cases c23_1 : x1 = 1
  · have h := (if_pos c23_1).symm.trans h
    refine lv_tableIn (tgt := 76) hx hb dX8_count_23 (by rw [c23_1]; decide) (by rw [c23_1]; decide) (off := 53) (by rw [c23_1]; rfl) (by decide) ?_
    refine lv_aload_n hx hb dX8_count_76 rfl (lv_at hl 0 rfl) ?_
    refine rg_X8_10 X hW dX8_count_77 ?_
    refine rg_X8_156 X hW lb_V1 dX8_count_80 ?_
    obtain rfl := Option.some.inj h
    exact lb_iret X hW dX8_count_83
  have h := (if_neg c23_1).symm.trans h
  by_cases c23_2 : x1 = 2
  · have h := (if_pos c23_2).symm.trans h
    refine lv_tableIn (tgt := 84) hx hb dX8_count_23 (by rw [c23_2]; decide) (by rw [c23_2]; decide) (off := 61) (by rw [c23_2]; rfl) (by decide) ?_
    refine lv_aload_n hx hb dX8_count_84 rfl (lv_at hl 0 rfl) ?_
    refine rg_X8_10 X hW dX8_count_85 ?_
    refine rg_X8_137 X hW lb_V1 dX8_count_88 ?_
    obtain rfl := Option.some.inj h
    exact lb_iret X hW dX8_count_91
  have h := (if_neg c23_2).symm.trans h
  by_cases c23_3 : x1 = 3
  · have h := (if_pos c23_3).symm.trans h
    refine lv_tableIn (tgt := 92) hx hb dX8_count_23 (by rw [c23_3]; decide) (by rw [c23_3]; decide) (off := 69) (by rw [c23_3]; rfl) (by decide) ?_
    refine lv_aload_n hx hb dX8_count_92 rfl (lv_at hl 0 rfl) ?_
    refine rg_X8_10 X hW dX8_count_93 ?_
    obtain ⟨q96, e96, h⟩ := lb_bind h
    refine rc_X8_143 X hW lb_V1 e96 ⟨⟨rfl, rfl⟩, Nat.le_of_ble_eq_true rfl, Nat.le_of_ble_eq_true rfl⟩ hl.1 (Nat.le_of_ble_eq_true rfl) dX8_count_96 ⟨Nat.zero_le _, Nat.zero_le _⟩ (fun H locs hW => ?_)
    obtain rfl := Option.some.inj h
    exact lb_iret X hW dX8_count_99
  have h := (if_neg c23_3).symm.trans h
  by_cases c23_4 : x1 = 4
  · have h := (if_pos c23_4).symm.trans h
    refine lv_tableIn (tgt := 100) hx hb dX8_count_23 (by rw [c23_4]; decide) (by rw [c23_4]; decide) (off := 77) (by rw [c23_4]; rfl) (by decide) ?_
    refine lv_aload_n hx hb dX8_count_100 rfl (lv_at hl 0 rfl) ?_
    refine rg_X8_10 X hW dX8_count_101 ?_
    obtain ⟨q104, e104, h⟩ := lb_bind h
    refine rc_X8_244 X hW lb_V1 e104 ⟨⟨rfl, rfl⟩, Nat.le_of_ble_eq_true rfl, Nat.le_of_ble_eq_true rfl⟩ hl.1 (Nat.le_of_ble_eq_true rfl) dX8_count_104 ⟨Nat.zero_le _, Nat.zero_le _⟩ (fun H locs hW => ?_)
    obtain rfl := Option.some.inj h
    exact lb_iret X hW dX8_count_107
  have h := (if_neg c23_4).symm.trans h
  by_cases c23_5 : x1 = 5
  · have h := (if_pos c23_5).symm.trans h
    refine lv_tableIn (tgt := 108) hx hb dX8_count_23 (by rw [c23_5]; decide) (by rw [c23_5]; decide) (off := 85) (by rw [c23_5]; rfl) (by decide) ?_
    refine lv_aload_n hx hb dX8_count_108 rfl (lv_at hl 0 rfl) ?_
    refine rg_X8_10 X hW dX8_count_109 ?_
    obtain ⟨q112, e112, h⟩ := lb_bind h
    refine rc_X8_159 X hW lb_V1 e112 ⟨⟨rfl, rfl⟩, Nat.le_of_ble_eq_true rfl, Nat.le_of_ble_eq_true rfl⟩ hl.1 (Nat.le_of_ble_eq_true rfl) dX8_count_112 ⟨Nat.zero_le _, Nat.zero_le _⟩ (fun H locs hW => ?_)
    refine rc_X8_193 X hW q112 ⟨⟨rfl, rfl⟩, Nat.le_of_ble_eq_true rfl, Nat.le_of_ble_eq_true rfl⟩ hl.1 (Nat.le_of_ble_eq_true rfl) dX8_count_115 ⟨Nat.zero_le _, Nat.zero_le _⟩ (fun H locs hW => ?_)
    obtain rfl := Option.some.inj h
    exact lb_iret X hW dX8_count_118
  have h := (if_neg c23_5).symm.trans h
  by_cases c23_6 : x1 = 6
  · have h := (if_pos c23_6).symm.trans h
    refine lv_tableIn (tgt := 119) hx hb dX8_count_23 (by rw [c23_6]; decide) (by rw [c23_6]; decide) (off := 96) (by rw [c23_6]; rfl) (by decide) ?_
    refine lv_aload_n hx hb dX8_count_119 rfl (lv_at hl 0 rfl) ?_
    refine rg_X8_37 X hW dX8_count_120 ?_
    obtain rfl := Option.some.inj h
    exact lb_iret X hW dX8_count_123
  have h := (if_neg c23_6).symm.trans h
  by_cases c23_7 : x1 = 7
  · have h := (if_pos c23_7).symm.trans h
    refine lv_tableIn (tgt := 124) hx hb dX8_count_23 (by rw [c23_7]; decide) (by rw [c23_7]; decide) (off := 101) (by rw [c23_7]; rfl) (by decide) ?_
    refine lv_aload_n hx hb dX8_count_124 rfl (lv_at hl 0 rfl) ?_
    refine rg_X8_29 X hW dX8_count_125 ?_
    refine rg_X8_48 X hW dX8_count_128 ?_
    obtain rfl := Option.some.inj h
    exact lb_iret X hW dX8_count_131
  have h := (if_neg c23_7).symm.trans h
  refine lb_tswD (tgt := 132) (lb_kn_cons c23_0 (lb_kn_cons c23_1 (lb_kn_cons c23_2 (lb_kn_cons c23_3 (lb_kn_cons c23_4 (lb_kn_cons c23_5 (lb_kn_cons c23_6 (lb_kn_cons c23_7 lb_kn_nil)))))))) hx hb dX8_count_23 (by decide) (by decide) (by decide) (by decide) (by decide) ?_
  refine lv_bipush (v := -9) hx hb dX8_count_132 rfl ?_
  obtain rfl := Option.some.inj h
  exact lb_iret X hW dX8_count_134
def f_X8_count (σ : lb_Mem) (x1 : Int32) : Option Int32 := if x1 < (11 : Int32) then f_X8_count_22 σ x1 else if (16 : Int32) < x1 then f_X8_count_22 σ x1 else lb_chk (lb_ix (x1 - (10 : Int32)) 7) (some (σ 52 (x1 - (10 : Int32)).toNatClampNeg))
set_option maxRecDepth 20000 in
set_option maxHeartbeats 4000000 in
theorem m_X8_count (l : Launch) (G : lb_G) (σ : lb_Mem) (x1 : Int32) (qr : Int32) (h : f_X8_count σ x1 = some qr) : lb_M l yX8_count cX8_count 2 (some .int) rmX8_count [.ref (lb_ad G 0), .int x1] G σ (lb_QI G qr σ) := by
  refine lb_start RX8 (by decide +kernel) rfl (Nat.le_of_ble_eq_true rfl) (fun p e s m below meth c X hW ls hl => ?_)
  have hx := X.1
  have hb := X.2.1
  have hl : lv_has ls 2 [(0, .ref (lb_ad G 0)), (1, .int x1)] := hl
  have h : (if x1 < (11 : Int32) then f_X8_count_22 σ x1 else if (16 : Int32) < x1 then f_X8_count_22 σ x1 else lb_chk (lb_ix (x1 - (10 : Int32)) 7) (some (σ 52 (x1 - (10 : Int32)).toNatClampNeg))) = some qr := h
  skip
  refine lv_iload_n hx hb dX8_count_0 rfl (lv_at hl 1 rfl) ?_
  refine lv_bipush (v := 11) hx hb dX8_count_1 rfl ?_
  refine lv_icmp_lt (tgt := 22) hx hb dX8_count_3 (by decide) (fun c3 => ?_) (fun c3 => ?_)
  · have h := (if_pos c3).symm.trans h
    exact w_X8_count_22 X x1 _ _ _ h hW (lv_sub hl [0, 1] rfl)
  · have h := (if_neg c3).symm.trans h
    refine lv_iload_n hx hb dX8_count_6 rfl (lv_at hl 1 rfl) ?_
    refine lv_bipush (v := 16) hx hb dX8_count_7 rfl ?_
    refine lv_icmp_gt (tgt := 22) hx hb dX8_count_9 (by decide) (fun c9 => ?_) (fun c9 => ?_)
    · have h := (if_pos c9).symm.trans h
      exact w_X8_count_22 X x1 _ _ _ h hW (lv_sub hl [0, 1] rfl)
    · have h := (if_neg c9).symm.trans h
      refine lv_aload_n hx hb dX8_count_12 rfl (lv_at hl 0 rfl) ?_
      refine rg_X8_41 X hW dX8_count_13 ?_
      refine lv_iload_n hx hb dX8_count_16 rfl (lv_at hl 1 rfl) ?_
      refine lv_bipush (v := 10) hx hb dX8_count_17 rfl ?_
      refine lv_isub hx hb dX8_count_19 ?_
      obtain ⟨i20, h⟩ := lb_chk_in h
      refine lb_ild X hW (show lb_ar 52 = 6 + 1 from rfl) i20 dX8_count_20 ?_
      obtain rfl := Option.some.inj h
      exact lb_iret X hW dX8_count_21
abbrev rmX9_isIn : Room := { frames := 0, cells := 0, slots := 0, locals := 0 }
def f_X9_isIn (x0 : Int32) (x1 : Int32) (x2 : Int32) : Int32 := if x0 < x1 then (0 : Int32) else if x2 < x0 then (0 : Int32) else (1 : Int32)
theorem zb_X9_isIn (x0 : Int32) (x1 : Int32) (x2 : Int32) : f_X9_isIn x0 x1 x2 = 0 ∨ f_X9_isIn x0 x1 x2 = 1 := by
  unfold f_X9_isIn
  (repeat' split) <;> first | exact Or.inl rfl | exact Or.inr rfl | exact Or.inl rfl
set_option maxRecDepth 20000 in
set_option maxHeartbeats 4000000 in
theorem m_X9_isIn (l : Launch) (G : lb_G) (σ : lb_Mem) (x0 : Int32) (x1 : Int32) (x2 : Int32) (qr : Int32) (h : f_X9_isIn x0 x1 x2 = qr) : lb_M l yX9_isIn cX9_isIn 3 (some .boolean) rmX9_isIn [.int x0, .int x1, .int x2] G σ (lb_QI G qr σ) := by
  refine lb_start RX9 (by decide +kernel) rfl (Nat.le_of_ble_eq_true rfl) (fun p e s m below meth c X hW ls hl => ?_)
  have hx := X.1
  have hb := X.2.1
  have hl : lv_has ls 3 [(0, .int x0), (1, .int x1), (2, .int x2)] := hl
  have h : (if x0 < x1 then (0 : Int32) else if x2 < x0 then (0 : Int32) else (1 : Int32)) = qr := h
  skip
  refine lv_iload_n hx hb dX9_isIn_0 rfl (lv_at hl 0 rfl) ?_
  refine lv_iload_n hx hb dX9_isIn_1 rfl (lv_at hl 1 rfl) ?_
  refine lv_icmp_lt (tgt := 14) hx hb dX9_isIn_2 (by decide) (fun c2 => ?_) (fun c2 => ?_)
  · have h := (if_pos c2).symm.trans h
    refine lv_iconst (v := 0) hx hb dX9_isIn_14 rfl ?_
    subst h
    exact lb_zret X hW (Or.inl rfl) dX9_isIn_15
  · have h := (if_neg c2).symm.trans h
    refine lv_iload_n hx hb dX9_isIn_5 rfl (lv_at hl 0 rfl) ?_
    refine lv_iload_n hx hb dX9_isIn_6 rfl (lv_at hl 2 rfl) ?_
    refine lv_icmp_gt (tgt := 14) hx hb dX9_isIn_7 (by decide) (fun c7 => ?_) (fun c7 => ?_)
    · have h := (if_pos c7).symm.trans h
      refine lv_iconst (v := 0) hx hb dX9_isIn_14 rfl ?_
      subst h
      exact lb_zret X hW (Or.inl rfl) dX9_isIn_15
    · have h := (if_neg c7).symm.trans h
      refine lv_iconst (v := 1) hx hb dX9_isIn_10 rfl ?_
      refine lv_goto (tgt := 15) hx hb dX9_isIn_11 (by decide) ?_
      subst h
      exact lb_zret X hW (Or.inr rfl) dX9_isIn_15
abbrev rmX9_held : Room := { frames := 0, cells := 0, slots := 0, locals := 0 }
def f_X9_held (x0 : Int32) : Int32 := if 0 ≤ x0 then if x0 ≤ (99 : Int32) then x0 else (99 : Int32) else (0 : Int32)
set_option maxRecDepth 20000 in
set_option maxHeartbeats 4000000 in
theorem m_X9_held (l : Launch) (G : lb_G) (σ : lb_Mem) (x0 : Int32) (qr : Int32) (h : f_X9_held x0 = qr) : lb_M l yX9_held cX9_held 1 (some .int) rmX9_held [.int x0] G σ (lb_QI G qr σ) := by
  refine lb_start RX9 (by decide +kernel) rfl (Nat.le_of_ble_eq_true rfl) (fun p e s m below meth c X hW ls hl => ?_)
  have hx := X.1
  have hb := X.2.1
  have hl : lv_has ls 1 [(0, .int x0)] := hl
  have h : (if 0 ≤ x0 then if x0 ≤ (99 : Int32) then x0 else (99 : Int32) else (0 : Int32)) = qr := h
  skip
  refine lv_iload_n hx hb dX9_held_0 rfl (lv_at hl 0 rfl) ?_
  refine lv_if_ge (tgt := 8) hx hb dX9_held_1 (by decide) (fun c1 => ?_) (fun c1 => ?_)
  · have h := (if_pos c1).symm.trans h
    refine lv_iload_n hx hb dX9_held_8 rfl (lv_at hl 0 rfl) ?_
    refine lv_bipush (v := 99) hx hb dX9_held_9 rfl ?_
    refine lv_icmp_le (tgt := 19) hx hb dX9_held_11 (by decide) (fun c11 => ?_) (fun c11 => ?_)
    · have h := (if_pos c11).symm.trans h
      refine lv_iload_n hx hb dX9_held_19 rfl (lv_at hl 0 rfl) ?_
      subst h
      exact lb_iret X hW dX9_held_20
    · have h := (if_neg c11).symm.trans h
      refine lv_bipush (v := 99) hx hb dX9_held_14 rfl ?_
      refine lv_goto (tgt := 20) hx hb dX9_held_16 (by decide) ?_
      subst h
      exact lb_iret X hW dX9_held_20
  · have h := (if_neg c1).symm.trans h
    refine lv_iconst (v := 0) hx hb dX9_held_4 rfl ?_
    refine lv_goto (tgt := 20) hx hb dX9_held_5 (by decide) ?_
    subst h
    exact lb_iret X hW dX9_held_20
abbrev rmX9_copies : Room := { frames := 0, cells := 0, slots := 0, locals := 0 }
def f_X9_copies_2 (k0 : Nat) (k1 : Nat) : Nat → Int32 → lb_Mem → Option lb_Mem
  | 0, _, _ => none
  | n + 1, x2, σ => if (61 : Int32) ≤ x2 then some σ else lb_chk (lb_ix x2 61) (lb_chk (lb_ix x2 61) (lb_let (lb_sto σ k1 x2.toNatClampNeg (σ k0 x2.toNatClampNeg)) (fun s13 : lb_Mem => f_X9_copies_2 k0 k1 n (x2 + 1) s13)))
set_option maxRecDepth 20000 in
set_option maxHeartbeats 4000000 in
theorem w_X9_copies_2 {p : Program} {l : Launch} {e : Env} {s : State} {m : MethodId} {args : Array Value} {below : List Frame} {meth : Method} {c : Code} {G : lb_G} {k0 : Nat} {k1 : Nat} {qr : lb_Mem} (X : lb_C G p s m args meth c cX9_copies 3 RX9 none) (hk0 : lb_ar k0 = 60 + 1) (hk1 : lb_ar k1 = 60 + 1) : ∀ (n : Nat) (x2 : Int32) (σ : lb_Mem) (H : Heap) (locs : List Loc) (ls : Array Slot), f_X9_copies_2 k0 k1 n x2 σ = some qr → lb_W G s σ H locs → lv_has ls 3 [(0, .ref (lb_ad G k0)), (1, .ref (lb_ad G k1)), (2, .int x2)] → W p l e rmX9_copies s m args below meth c H locs 0 0 (MQ below (lb_QV G qr) args s 0 0 (lb_A G)) (F0 m 2 ls []) := by
  have hx := X.1
  have hb := X.2.1
  intro n
  induction n with
  | zero => intro x2 σ H locs ls h hW hl; exact absurd h (fun z => by cases z)
  | succ n ih =>
    intro x2 σ H locs ls h hW hl
    have h : (if (61 : Int32) ≤ x2 then some σ else lb_chk (lb_ix x2 61) (lb_chk (lb_ix x2 61) (lb_let (lb_sto σ k1 x2.toNatClampNeg (σ k0 x2.toNatClampNeg)) (fun s13 : lb_Mem => f_X9_copies_2 k0 k1 n (x2 + 1) s13)))) = some qr := h
    refine lv_iload_n hx hb dX9_copies_2 rfl (lv_at hl 2 rfl) ?_
    refine lv_bipush (v := 61) hx hb dX9_copies_3 rfl ?_
    refine lv_icmp_ge (tgt := 20) hx hb dX9_copies_5 (by decide) (fun c5 => ?_) (fun c5 => ?_)
    · have h := (if_pos c5).symm.trans h
      obtain rfl := Option.some.inj h
      exact lb_vret X hW dX9_copies_20
    · have h := (if_neg c5).symm.trans h
      refine lv_aload_n hx hb dX9_copies_8 rfl (lv_at hl 1 rfl) ?_
      refine lv_iload_n hx hb dX9_copies_9 rfl (lv_at hl 2 rfl) ?_
      refine lv_aload_n hx hb dX9_copies_10 rfl (lv_at hl 0 rfl) ?_
      refine lv_iload_n hx hb dX9_copies_11 rfl (lv_at hl 2 rfl) ?_
      obtain ⟨i12, h⟩ := lb_chk_in h
      refine lb_ild X hW hk0 i12 dX9_copies_12 ?_
      obtain ⟨i13, h⟩ := lb_chk_in h
      refine lb_ist X hW hk1 i13 dX9_copies_13 (fun H locs hW => ?_)
      obtain ⟨s13, e13⟩ : ∃ z, z = lb_sto σ k1 x2.toNatClampNeg (σ k0 x2.toNatClampNeg) := ⟨_, rfl⟩
      rw [← e13] at hW
      have h := lb_letI e13 h
      refine lv_iinc (v := (x2 + 1)) (lv' := [(2, .int (x2 + 1)), (0, .ref (lb_ad G k0)), (1, .ref (lb_ad G k1))]) hx hb dX9_copies_14 hl (k := 2) rfl rfl (by decide) rfl (fun ls hl => ?_)
      refine lv_goto (tgt := 2) hx hb dX9_copies_17 (by decide) ?_
      exact ih (x2 + 1) s13 _ _ _ h hW (lv_sub hl [1, 2, 0] rfl)
def f_X9_copies (k0 : Nat) (k1 : Nat) (σ : lb_Mem) : Option lb_Mem := f_X9_copies_2 k0 k1 lb_N (0 : Int32) σ
set_option maxRecDepth 20000 in
set_option maxHeartbeats 4000000 in
theorem m_X9_copies (l : Launch) (G : lb_G) (σ : lb_Mem) {k0 : Nat} (hk0 : lb_ar k0 = 60 + 1) {k1 : Nat} (hk1 : lb_ar k1 = 60 + 1) (qr : lb_Mem) (h : f_X9_copies k0 k1 σ = some qr) : lb_M l yX9_copies cX9_copies 3 none rmX9_copies [.ref (lb_ad G k0), .ref (lb_ad G k1)] G σ (lb_QV G qr) := by
  refine lb_start RX9 (by decide +kernel) rfl (Nat.le_of_ble_eq_true rfl) (fun p e s m below meth c X hW ls hl => ?_)
  have hx := X.1
  have hb := X.2.1
  have hl : lv_has ls 3 [(0, .ref (lb_ad G k0)), (1, .ref (lb_ad G k1))] := hl
  have h : (f_X9_copies_2 k0 k1 lb_N (0 : Int32) σ) = some qr := h
  skip
  refine lv_iconst (v := 0) hx hb dX9_copies_0 rfl ?_
  refine lv_istore_n (lv' := [(2, .int (0 : Int32)), (0, .ref (lb_ad G k0)), (1, .ref (lb_ad G k1))]) hx hb dX9_copies_1 rfl hl (by decide) rfl (fun ls hl => ?_)
  exact w_X9_copies_2 X hk0 hk1 lb_N (0 : Int32) σ _ _ _ h hW (lv_sub hl [1, 2, 0] rfl)
abbrev rmX9_no : Room := { frames := 0, cells := 0, slots := 0, locals := 0 }
def f_X9_no (x1 : Int32) (σ : lb_Mem) : Option (Int32 × lb_Mem) := lb_chk (lb_ix (-x1) 7) (lb_chk (lb_ix (-x1) 7) (lb_let (lb_sto σ 60 (-x1).toNatClampNeg ((σ 60 (-x1).toNatClampNeg) + (1 : Int32))) (fun s10 : lb_Mem => some (x1, s10))))
set_option maxRecDepth 20000 in
set_option maxHeartbeats 4000000 in
theorem m_X9_no (l : Launch) (G : lb_G) (σ : lb_Mem) (x1 : Int32) (qr : (Int32 × lb_Mem)) (h : f_X9_no x1 σ = some qr) : lb_M l yX9_no cX9_no 2 (some .int) rmX9_no [.ref (lb_ad G 53), .int x1] G σ (lb_QI G qr.1 qr.2) := by
  refine lb_start RX9 (by decide +kernel) rfl (Nat.le_of_ble_eq_true rfl) (fun p e s m below meth c X hW ls hl => ?_)
  have hx := X.1
  have hb := X.2.1
  have hl : lv_has ls 2 [(0, .ref (lb_ad G 53)), (1, .int x1)] := hl
  have h : (lb_chk (lb_ix (-x1) 7) (lb_chk (lb_ix (-x1) 7) (lb_let (lb_sto σ 60 (-x1).toNatClampNeg ((σ 60 (-x1).toNatClampNeg) + (1 : Int32))) (fun s10 : lb_Mem => some (x1, s10))))) = some qr := h
  skip
  refine lv_aload_n hx hb dX9_no_0 rfl (lv_at hl 0 rfl) ?_
  refine rg_X9_28 X hW dX9_no_1 ?_
  refine lv_iload_n hx hb dX9_no_4 rfl (lv_at hl 1 rfl) ?_
  refine lv_ineg hx hb dX9_no_5 ?_
  refine lv_dup2_11 hx hb dX9_no_6 rfl rfl ?_
  obtain ⟨i7, h⟩ := lb_chk_in h
  refine lb_ild X hW (show lb_ar 60 = 6 + 1 from rfl) i7 dX9_no_7 ?_
  refine lv_iconst (v := 1) hx hb dX9_no_8 rfl ?_
  refine lv_iadd hx hb dX9_no_9 ?_
  obtain ⟨i10, h⟩ := lb_chk_in h
  refine lb_ist X hW (show lb_ar 60 = 6 + 1 from rfl) i10 dX9_no_10 (fun H locs hW => ?_)
  obtain ⟨s10, e10⟩ : ∃ z, z = lb_sto σ 60 (-x1).toNatClampNeg ((σ 60 (-x1).toNatClampNeg) + (1 : Int32)) := ⟨_, rfl⟩
  rw [← e10] at hW
  have h := lb_letI e10 h
  refine lv_iload_n hx hb dX9_no_11 rfl (lv_at hl 1 rfl) ?_
  obtain rfl := Option.some.inj h
  exact lb_iret X hW dX9_no_12
theorem rc_X9_35 {p : Program} {l : Launch} {e : Env} {R : Room} {s : State} {m : MethodId} {args : Array Value} {below : List Frame} {meth : Method} {c : Code} {H : Heap} {locs : List Loc} {cells slots : Nat} {Q : State → Prop} {cc : ByteArray} {pc nL : Nat} {ls : Array Slot} {rest : List Value} {G : lb_G} {σ : lb_Mem} {ret : Option FieldType} (X : lb_C G p s m args meth c cc nL RX9 ret) (hW : lb_W G s σ H locs) {x1 : Int32} {qr : (Int32 × lb_Mem)} (h : f_X9_no x1 σ = some qr) (hR : lb_room rmX9_no R 2) (hls : ls.size = nL) (hrest : (rest.map fun v => v.category).sum ≤ 8) (d : decode cc pc = .ok (.invokevirtual 35, 3)) (hcap : cells ≤ R.cells ∧ slots ≤ R.slots) (kk : ∀ (H1 : Heap) (locs1 : List Loc), lb_W G s qr.2 H1 locs1 → W p l e R s m args below meth c H1 locs1 cells slots Q (F0 m (pc + 3) ls (.int qr.1 :: rest))) : W p l e R s m args below meth c H locs cells slots Q (F0 m pc ls (.int x1 :: .ref (lb_ad G 53) :: rest)) :=
  lb_goI hW (lb_runV (As := [.int x1]) X hW (m_X9_no l G σ x1 qr h) (n := 1) ⟨qw_810, qw_52, qw_813, by decide +kernel⟩ hR qw_812 qw_17 lb_is53 rfl hls hrest d hcap) kk
abbrev rmX9_noFar : Room := { frames := 1, cells := 0, slots := 0, locals := 21 }
def f_X9_noFar (x1 : Int32) (σ : lb_Mem) : Option (Int32 × lb_Mem) := (f_X9_no x1 σ).bind (fun q4 => some (((1000000000 : Int32) - q4.1), q4.2))
set_option maxRecDepth 20000 in
set_option maxHeartbeats 4000000 in
theorem m_X9_noFar (l : Launch) (G : lb_G) (σ : lb_Mem) (x1 : Int32) (qr : (Int32 × lb_Mem)) (h : f_X9_noFar x1 σ = some qr) : lb_M l yX9_noFar cX9_noFar 2 (some .int) rmX9_noFar [.ref (lb_ad G 53), .int x1] G σ (lb_QI G qr.1 qr.2) := by
  refine lb_start RX9 (by decide +kernel) rfl (Nat.le_of_ble_eq_true rfl) (fun p e s m below meth c X hW ls hl => ?_)
  have hx := X.1
  have hb := X.2.1
  have hl : lv_has ls 2 [(0, .ref (lb_ad G 53)), (1, .int x1)] := hl
  have h : ((f_X9_no x1 σ).bind (fun q4 => some (((1000000000 : Int32) - q4.1), q4.2))) = some qr := h
  skip
  refine lv_ldc (v := 1000000000) hx hb X.2.2.2.1 (X.2.2.2.2.1 _ qw_906) dX9_noFar_0 ?_
  refine lv_aload_n hx hb dX9_noFar_2 rfl (lv_at hl 0 rfl) ?_
  refine lv_iload_n hx hb dX9_noFar_3 rfl (lv_at hl 1 rfl) ?_
  obtain ⟨q4, e4, h⟩ := lb_bind h
  refine rc_X9_35 X hW e4 ⟨⟨rfl, rfl⟩, Nat.le_of_ble_eq_true rfl, Nat.le_of_ble_eq_true rfl⟩ hl.1 (Nat.le_of_ble_eq_true rfl) dX9_noFar_4 ⟨Nat.zero_le _, Nat.zero_le _⟩ (fun H locs hW => ?_)
  refine lv_isub hx hb dX9_noFar_7 ?_
  obtain rfl := Option.some.inj h
  exact lb_iret X hW dX9_noFar_8
abbrev rmX9_noWide : Room := { frames := 1, cells := 0, slots := 0, locals := 21 }
def f_X9_noWide (x1 : Int32) (σ : lb_Mem) : Option (Int64 × lb_Mem) := (f_X9_no x1 σ).bind (fun q5 => some (((4000000000000000000 : Int64) - (q5.1.toInt64)), q5.2))
set_option maxRecDepth 20000 in
set_option maxHeartbeats 4000000 in
theorem m_X9_noWide (l : Launch) (G : lb_G) (σ : lb_Mem) (x1 : Int32) (qr : (Int64 × lb_Mem)) (h : f_X9_noWide x1 σ = some qr) : lb_M l yX9_noWide cX9_noWide 2 (some .long) rmX9_noWide [.ref (lb_ad G 53), .int x1] G σ (lb_QL G qr.1 qr.2) := by
  refine lb_start RX9 (by decide +kernel) rfl (Nat.le_of_ble_eq_true rfl) (fun p e s m below meth c X hW ls hl => ?_)
  have hx := X.1
  have hb := X.2.1
  have hl : lv_has ls 2 [(0, .ref (lb_ad G 53)), (1, .int x1)] := hl
  have h : ((f_X9_no x1 σ).bind (fun q5 => some (((4000000000000000000 : Int64) - (q5.1.toInt64)), q5.2))) = some qr := h
  skip
  refine lv_ldc2 (v := 4000000000000000000) hx hb X.2.2.2.1 (X.2.2.2.2.1 _ qw_1075) dX9_noWide_0 ?_
  refine lv_aload_n hx hb dX9_noWide_3 rfl (lv_at hl 0 rfl) ?_
  refine lv_iload_n hx hb dX9_noWide_4 rfl (lv_at hl 1 rfl) ?_
  obtain ⟨q5, e5, h⟩ := lb_bind h
  refine rc_X9_35 X hW e5 ⟨⟨rfl, rfl⟩, Nat.le_of_ble_eq_true rfl, Nat.le_of_ble_eq_true rfl⟩ hl.1 (Nat.le_of_ble_eq_true rfl) dX9_noWide_5 ⟨Nat.zero_le _, Nat.zero_le _⟩ (fun H locs hW => ?_)
  refine lv_i2l (v := q5.1.toInt64) hx hb dX9_noWide_8 rfl ?_
  refine lv_lsub hx hb dX9_noWide_9 ?_
  obtain rfl := Option.some.inj h
  exact lb_lret X hW dX9_noWide_10
abbrev rmX9_ofT : Room := { frames := 0, cells := 0, slots := 0, locals := 0 }
def f_X9_ofT (x0 : Int32) (x1 : Int32) : Int32 := (((3 : Int32) + ((6 : Int32) * x0)) + x1)
set_option maxRecDepth 20000 in
set_option maxHeartbeats 4000000 in
theorem m_X9_ofT (l : Launch) (G : lb_G) (σ : lb_Mem) (x0 : Int32) (x1 : Int32) (qr : Int32) (h : f_X9_ofT x0 x1 = qr) : lb_M l yX9_ofT cX9_ofT 2 (some .int) rmX9_ofT [.int x0, .int x1] G σ (lb_QI G qr σ) := by
  refine lb_start RX9 (by decide +kernel) rfl (Nat.le_of_ble_eq_true rfl) (fun p e s m below meth c X hW ls hl => ?_)
  have hx := X.1
  have hb := X.2.1
  have hl : lv_has ls 2 [(0, .int x0), (1, .int x1)] := hl
  have h : ((((3 : Int32) + ((6 : Int32) * x0)) + x1)) = qr := h
  skip
  refine lv_iconst (v := 3) hx hb dX9_ofT_0 rfl ?_
  refine lv_bipush (v := 6) hx hb dX9_ofT_1 rfl ?_
  refine lv_iload_n hx hb dX9_ofT_3 rfl (lv_at hl 0 rfl) ?_
  refine lv_imul hx hb dX9_ofT_4 ?_
  refine lv_iadd hx hb dX9_ofT_5 ?_
  refine lv_iload_n hx hb dX9_ofT_6 rfl (lv_at hl 1 rfl) ?_
  refine lv_iadd hx hb dX9_ofT_7 ?_
  subst h
  exact lb_iret X hW dX9_ofT_8
abbrev rmX9_ofP : Room := { frames := 0, cells := 0, slots := 0, locals := 0 }
def f_X9_ofP (x0 : Int32) (x1 : Int32) : Int32 := (((51 : Int32) + ((2 : Int32) * x0)) + x1)
set_option maxRecDepth 20000 in
set_option maxHeartbeats 4000000 in
theorem m_X9_ofP (l : Launch) (G : lb_G) (σ : lb_Mem) (x0 : Int32) (x1 : Int32) (qr : Int32) (h : f_X9_ofP x0 x1 = qr) : lb_M l yX9_ofP cX9_ofP 2 (some .int) rmX9_ofP [.int x0, .int x1] G σ (lb_QI G qr σ) := by
  refine lb_start RX9 (by decide +kernel) rfl (Nat.le_of_ble_eq_true rfl) (fun p e s m below meth c X hW ls hl => ?_)
  have hx := X.1
  have hb := X.2.1
  have hl : lv_has ls 2 [(0, .int x0), (1, .int x1)] := hl
  have h : ((((51 : Int32) + ((2 : Int32) * x0)) + x1)) = qr := h
  skip
  refine lv_bipush (v := 51) hx hb dX9_ofP_0 rfl ?_
  refine lv_iconst (v := 2) hx hb dX9_ofP_2 rfl ?_
  refine lv_iload_n hx hb dX9_ofP_3 rfl (lv_at hl 0 rfl) ?_
  refine lv_imul hx hb dX9_ofP_4 ?_
  refine lv_iadd hx hb dX9_ofP_5 ?_
  refine lv_iload_n hx hb dX9_ofP_6 rfl (lv_at hl 1 rfl) ?_
  refine lv_iadd hx hb dX9_ofP_7 ?_
  subst h
  exact lb_iret X hW dX9_ofP_8
theorem rc_X9_41 {p : Program} {l : Launch} {e : Env} {R : Room} {s : State} {m : MethodId} {args : Array Value} {below : List Frame} {meth : Method} {c : Code} {H : Heap} {locs : List Loc} {cells slots : Nat} {Q : State → Prop} {cc : ByteArray} {pc nL : Nat} {ls : Array Slot} {rest : List Value} {G : lb_G} {σ : lb_Mem} {ret : Option FieldType} (X : lb_C G p s m args meth c cc nL RX9 ret) (hW : lb_W G s σ H locs) (x0 : Int32) (x1 : Int32) (x2 : Int32) (hR : lb_room rmX9_isIn R 3) (hls : ls.size = nL) (hrest : (rest.map fun v => v.category).sum ≤ 8) (d : decode cc pc = .ok (.invokestatic 41, 3)) (hcap : cells ≤ R.cells ∧ slots ≤ R.slots) (kk : ∀ (H1 : Heap) (locs1 : List Loc), lb_W G s σ H1 locs1 → W p l e R s m args below meth c H1 locs1 cells slots Q (F0 m (pc + 3) ls (.int (f_X9_isIn x0 x1 x2) :: rest))) : W p l e R s m args below meth c H locs cells slots Q (F0 m pc ls (.int x2 :: .int x1 :: .int x0 :: rest)) :=
  lb_goI hW (lb_runS (As := [.int x0, .int x1, .int x2]) X hW (m_X9_isIn l G σ x0 x1 x2 _ rfl) (n := 3) ⟨qw_830, qw_52, qw_832, by decide +kernel⟩ hR qw_831 rfl hls hrest d hcap) kk
abbrev rmX9_isPot : Room := { frames := 1, cells := 0, slots := 0, locals := 22 }
def f_X9_isPot (σ : lb_Mem) (x1 : Int32) : Int32 := (f_X9_isIn x1 (0 : Int32) ((σ 54 (0 : Int32).toNatClampNeg) - (1 : Int32)))
theorem zb_X9_isPot (σ : lb_Mem) (x1 : Int32) : f_X9_isPot σ x1 = 0 ∨ f_X9_isPot σ x1 = 1 := by
  unfold f_X9_isPot
  (repeat' split) <;> first | exact Or.inl rfl | exact Or.inr rfl | exact zb_X9_isIn _ _ _
set_option maxRecDepth 20000 in
set_option maxHeartbeats 4000000 in
theorem m_X9_isPot (l : Launch) (G : lb_G) (σ : lb_Mem) (x1 : Int32) (qr : Int32) (h : f_X9_isPot σ x1 = qr) : lb_M l yX9_isPot cX9_isPot 2 (some .boolean) rmX9_isPot [.ref (lb_ad G 53), .int x1] G σ (lb_QI G qr σ) := by
  refine lb_start RX9 (by decide +kernel) rfl (Nat.le_of_ble_eq_true rfl) (fun p e s m below meth c X hW ls hl => ?_)
  have hx := X.1
  have hb := X.2.1
  have hl : lv_has ls 2 [(0, .ref (lb_ad G 53)), (1, .int x1)] := hl
  have h : ((f_X9_isIn x1 (0 : Int32) ((σ 54 (0 : Int32).toNatClampNeg) - (1 : Int32)))) = qr := h
  skip
  refine lv_iload_n hx hb dX9_isPot_0 rfl (lv_at hl 1 rfl) ?_
  refine lv_iconst (v := 0) hx hb dX9_isPot_1 rfl ?_
  refine lv_aload_n hx hb dX9_isPot_2 rfl (lv_at hl 0 rfl) ?_
  refine rg_X9_9 X hW dX9_isPot_3 ?_
  refine lv_iconst (v := 0) hx hb dX9_isPot_6 rfl ?_
  refine lb_ild X hW (show lb_ar 54 = 60 + 1 from rfl) (lb_inC rfl) dX9_isPot_7 ?_
  refine lv_iconst (v := 1) hx hb dX9_isPot_8 rfl ?_
  refine lv_isub hx hb dX9_isPot_9 ?_
  refine rc_X9_41 X hW x1 (0 : Int32) ((σ 54 (0 : Int32).toNatClampNeg) - (1 : Int32)) ⟨⟨rfl, rfl⟩, Nat.le_of_ble_eq_true rfl, Nat.le_of_ble_eq_true rfl⟩ hl.1 (Nat.le_of_ble_eq_true rfl) dX9_isPot_10 ⟨Nat.zero_le _, Nat.zero_le _⟩ (fun H locs hW => ?_)
  subst h
  exact lb_zret X hW (zb_X9_isIn _ _ _) dX9_isPot_13
abbrev rmX9_isPerson : Room := { frames := 1, cells := 0, slots := 0, locals := 22 }
def f_X9_isPerson (σ : lb_Mem) (x1 : Int32) : Int32 := (f_X9_isIn x1 (0 : Int32) ((σ 54 (1 : Int32).toNatClampNeg) - (1 : Int32)))
theorem zb_X9_isPerson (σ : lb_Mem) (x1 : Int32) : f_X9_isPerson σ x1 = 0 ∨ f_X9_isPerson σ x1 = 1 := by
  unfold f_X9_isPerson
  (repeat' split) <;> first | exact Or.inl rfl | exact Or.inr rfl | exact zb_X9_isIn _ _ _
set_option maxRecDepth 20000 in
set_option maxHeartbeats 4000000 in
theorem m_X9_isPerson (l : Launch) (G : lb_G) (σ : lb_Mem) (x1 : Int32) (qr : Int32) (h : f_X9_isPerson σ x1 = qr) : lb_M l yX9_isPerson cX9_isPerson 2 (some .boolean) rmX9_isPerson [.ref (lb_ad G 53), .int x1] G σ (lb_QI G qr σ) := by
  refine lb_start RX9 (by decide +kernel) rfl (Nat.le_of_ble_eq_true rfl) (fun p e s m below meth c X hW ls hl => ?_)
  have hx := X.1
  have hb := X.2.1
  have hl : lv_has ls 2 [(0, .ref (lb_ad G 53)), (1, .int x1)] := hl
  have h : ((f_X9_isIn x1 (0 : Int32) ((σ 54 (1 : Int32).toNatClampNeg) - (1 : Int32)))) = qr := h
  skip
  refine lv_iload_n hx hb dX9_isPerson_0 rfl (lv_at hl 1 rfl) ?_
  refine lv_iconst (v := 0) hx hb dX9_isPerson_1 rfl ?_
  refine lv_aload_n hx hb dX9_isPerson_2 rfl (lv_at hl 0 rfl) ?_
  refine rg_X9_9 X hW dX9_isPerson_3 ?_
  refine lv_iconst (v := 1) hx hb dX9_isPerson_6 rfl ?_
  refine lb_ild X hW (show lb_ar 54 = 60 + 1 from rfl) (lb_inC rfl) dX9_isPerson_7 ?_
  refine lv_iconst (v := 1) hx hb dX9_isPerson_8 rfl ?_
  refine lv_isub hx hb dX9_isPerson_9 ?_
  refine rc_X9_41 X hW x1 (0 : Int32) ((σ 54 (1 : Int32).toNatClampNeg) - (1 : Int32)) ⟨⟨rfl, rfl⟩, Nat.le_of_ble_eq_true rfl, Nat.le_of_ble_eq_true rfl⟩ hl.1 (Nat.le_of_ble_eq_true rfl) dX9_isPerson_10 ⟨Nat.zero_le _, Nat.zero_le _⟩ (fun H locs hW => ?_)
  subst h
  exact lb_zret X hW (zb_X9_isIn _ _ _) dX9_isPerson_13
abbrev rmX9_has : Room := { frames := 0, cells := 0, slots := 0, locals := 0 }
def f_X9_has (x0 : Int32) (x1 : Int32) : Int32 := if ((x0 >>> (x1 &&& 31)) &&& (1 : Int32)) = (1 : Int32) then (1 : Int32) else (0 : Int32)
theorem zb_X9_has (x0 : Int32) (x1 : Int32) : f_X9_has x0 x1 = 0 ∨ f_X9_has x0 x1 = 1 := by
  unfold f_X9_has
  (repeat' split) <;> first | exact Or.inl rfl | exact Or.inr rfl | exact Or.inl rfl
set_option maxRecDepth 20000 in
set_option maxHeartbeats 4000000 in
theorem m_X9_has (l : Launch) (G : lb_G) (σ : lb_Mem) (x0 : Int32) (x1 : Int32) (qr : Int32) (h : f_X9_has x0 x1 = qr) : lb_M l yX9_has cX9_has 2 (some .boolean) rmX9_has [.int x0, .int x1] G σ (lb_QI G qr σ) := by
  refine lb_start RX9 (by decide +kernel) rfl (Nat.le_of_ble_eq_true rfl) (fun p e s m below meth c X hW ls hl => ?_)
  have hx := X.1
  have hb := X.2.1
  have hl : lv_has ls 2 [(0, .int x0), (1, .int x1)] := hl
  have h : (if ((x0 >>> (x1 &&& 31)) &&& (1 : Int32)) = (1 : Int32) then (1 : Int32) else (0 : Int32)) = qr := h
  skip
  refine lv_iload_n hx hb dX9_has_0 rfl (lv_at hl 0 rfl) ?_
  refine lv_iload_n hx hb dX9_has_1 rfl (lv_at hl 1 rfl) ?_
  refine lv_ishr hx hb dX9_has_2 ?_
  refine lv_iconst (v := 1) hx hb dX9_has_3 rfl ?_
  refine lv_iand hx hb dX9_has_4 ?_
  refine lv_iconst (v := 1) hx hb dX9_has_5 rfl ?_
  refine lv_icmp_ne (tgt := 13) hx hb dX9_has_6 (by decide) (fun c6 => ?_) (fun c6 => ?_)
  · have h := (if_neg c6).symm.trans h
    refine lv_iconst (v := 0) hx hb dX9_has_13 rfl ?_
    subst h
    exact lb_zret X hW (Or.inl rfl) dX9_has_14
  · have h := (if_pos c6).symm.trans h
    refine lv_iconst (v := 1) hx hb dX9_has_9 rfl ?_
    refine lv_goto (tgt := 14) hx hb dX9_has_10 (by decide) ?_
    subst h
    exact lb_zret X hW (Or.inr rfl) dX9_has_14
