abbrev rmX9_trust : Room := { frames := 3, cells := 0, slots := 0, locals := 69 }
def f_X9_trust_18 : Nat → Int32 → Int32 → Int32 → lb_Mem → Option (Int32 × lb_Mem)
  | 0, _, _, _, _ => none
  | n + 1, x1, x2, x3, σ => if (σ 54 (0 : Int32).toNatClampNeg) ≤ x3 then some (x2, σ) else lb_chk (lb_ix (f_X9_ofT x3 (5 : Int32)) 61) (if (σ 54 (f_X9_ofT x3 (5 : Int32)).toNatClampNeg) = x1 then lb_chk (lb_ix (f_X9_ofT x3 (4 : Int32)) 61) (if (σ 54 (f_X9_ofT x3 (4 : Int32)).toNatClampNeg) ≤ 0 then lb_let ((x2 + (0 : Int32))) (fun v71 : Int32 => f_X9_trust_18 n x1 v71 (x3 + 1) σ) else (f_X9_gainsOwner σ x3).bind (fun q58 => if q58 < (1 : Int32) then lb_let ((x2 + (0 : Int32))) (fun v71 : Int32 => f_X9_trust_18 n x1 v71 (x3 + 1) σ) else lb_let ((x2 + (1 : Int32))) (fun v71 : Int32 => f_X9_trust_18 n x1 v71 (x3 + 1) σ))) else lb_let ((x2 + (0 : Int32))) (fun v71 : Int32 => f_X9_trust_18 n x1 v71 (x3 + 1) σ))
set_option maxRecDepth 20000 in
set_option maxHeartbeats 4000000 in
theorem w_X9_trust_18 {p : Program} {l : Launch} {e : Env} {s : State} {m : MethodId} {args : Array Value} {below : List Frame} {meth : Method} {c : Code} {G : lb_G} {qr : (Int32 × lb_Mem)} (X : lb_C G p s m args meth c cX9_trust 4 RX9 (some .int)) : ∀ (n : Nat) (x1 : Int32) (x2 : Int32) (x3 : Int32) (σ : lb_Mem) (H : Heap) (locs : List Loc) (ls : Array Slot), f_X9_trust_18 n x1 x2 x3 σ = some qr → lb_W G s σ H locs → lv_has ls 4 [(0, .ref (lb_ad G 53)), (1, .int x1), (2, .int x2), (3, .int x3)] → W p l e rmX9_trust s m args below meth c H locs 0 0 (MQ below (lb_QI G qr.1 qr.2) args s 0 0 (lb_A G)) (F0 m 18 ls []) := by
  have hx := X.1
  have hb := X.2.1
  intro n
  induction n with
  | zero => intro x1 x2 x3 σ H locs ls h hW hl; exact absurd h (fun z => by cases z)
  | succ n ih =>
    intro x1 x2 x3 σ H locs ls h hW hl
    have h : (if (σ 54 (0 : Int32).toNatClampNeg) ≤ x3 then some (x2, σ) else lb_chk (lb_ix (f_X9_ofT x3 (5 : Int32)) 61) (if (σ 54 (f_X9_ofT x3 (5 : Int32)).toNatClampNeg) = x1 then lb_chk (lb_ix (f_X9_ofT x3 (4 : Int32)) 61) (if (σ 54 (f_X9_ofT x3 (4 : Int32)).toNatClampNeg) ≤ 0 then lb_let ((x2 + (0 : Int32))) (fun v71 : Int32 => f_X9_trust_18 n x1 v71 (x3 + 1) σ) else (f_X9_gainsOwner σ x3).bind (fun q58 => if q58 < (1 : Int32) then lb_let ((x2 + (0 : Int32))) (fun v71 : Int32 => f_X9_trust_18 n x1 v71 (x3 + 1) σ) else lb_let ((x2 + (1 : Int32))) (fun v71 : Int32 => f_X9_trust_18 n x1 v71 (x3 + 1) σ))) else lb_let ((x2 + (0 : Int32))) (fun v71 : Int32 => f_X9_trust_18 n x1 v71 (x3 + 1) σ))) = some qr := h
    refine lv_iload_n hx hb dX9_trust_18 rfl (lv_at hl 3 rfl) ?_
    refine lv_aload_n hx hb dX9_trust_19 rfl (lv_at hl 0 rfl) ?_
    refine rg_X9_9 X hW dX9_trust_20 ?_
    refine lv_iconst (v := 0) hx hb dX9_trust_23 rfl ?_
    refine lb_ild X hW (show lb_ar 54 = 60 + 1 from rfl) (lb_inC rfl) dX9_trust_24 ?_
    refine lv_icmp_ge (tgt := 78) hx hb dX9_trust_25 (by decide) (fun c25 => ?_) (fun c25 => ?_)
    · have h := (if_pos c25).symm.trans h
      refine lv_iload_n hx hb dX9_trust_78 rfl (lv_at hl 2 rfl) ?_
      obtain rfl := Option.some.inj h
      exact lb_iret X hW dX9_trust_79
    · have h := (if_neg c25).symm.trans h
      refine lv_iload_n hx hb dX9_trust_28 rfl (lv_at hl 2 rfl) ?_
      refine lv_aload_n hx hb dX9_trust_29 rfl (lv_at hl 0 rfl) ?_
      refine rg_X9_9 X hW dX9_trust_30 ?_
      refine lv_iload_n hx hb dX9_trust_33 rfl (lv_at hl 3 rfl) ?_
      refine lv_iconst (v := 5) hx hb dX9_trust_34 rfl ?_
      refine rc_X9_45 X hW x3 (5 : Int32) ⟨⟨rfl, rfl⟩, Nat.le_of_ble_eq_true rfl, Nat.le_of_ble_eq_true rfl⟩ hl.1 (Nat.le_of_ble_eq_true rfl) dX9_trust_35 ⟨Nat.zero_le _, Nat.zero_le _⟩ (fun H locs hW => ?_)
      obtain ⟨i38, h⟩ := lb_chk_in h
      refine lb_ild X hW (show lb_ar 54 = 60 + 1 from rfl) i38 dX9_trust_38 ?_
      refine lv_iload_n hx hb dX9_trust_39 rfl (lv_at hl 1 rfl) ?_
      refine lv_icmp_ne (tgt := 69) hx hb dX9_trust_40 (by decide) (fun c40 => ?_) (fun c40 => ?_)
      · have h := (if_neg c40).symm.trans h
        refine lv_iconst (v := 0) hx hb dX9_trust_69 rfl ?_
        refine lv_iadd hx hb dX9_trust_70 ?_
        refine lv_topi (fun v71 e71 => ?_)
        have h := lb_letI e71 h
        refine lv_istore_n (lv' := [(2, .int v71), (0, .ref (lb_ad G 53)), (1, .int x1), (3, .int x3)]) hx hb dX9_trust_71 rfl hl (by decide) rfl (fun ls hl => ?_)
        refine lv_iinc (v := (x3 + 1)) (lv' := [(3, .int (x3 + 1)), (2, .int v71), (0, .ref (lb_ad G 53)), (1, .int x1)]) hx hb dX9_trust_72 hl (k := 3) rfl rfl (by decide) rfl (fun ls hl => ?_)
        refine lv_goto (tgt := 18) hx hb dX9_trust_75 (by decide) ?_
        exact ih x1 v71 (x3 + 1) σ _ _ _ h hW (lv_sub hl [2, 3, 1, 0] rfl)
      · have h := (if_pos c40).symm.trans h
        refine lv_aload_n hx hb dX9_trust_43 rfl (lv_at hl 0 rfl) ?_
        refine rg_X9_9 X hW dX9_trust_44 ?_
        refine lv_iload_n hx hb dX9_trust_47 rfl (lv_at hl 3 rfl) ?_
        refine lv_iconst (v := 4) hx hb dX9_trust_48 rfl ?_
        refine rc_X9_45 X hW x3 (4 : Int32) ⟨⟨rfl, rfl⟩, Nat.le_of_ble_eq_true rfl, Nat.le_of_ble_eq_true rfl⟩ hl.1 (Nat.le_of_ble_eq_true rfl) dX9_trust_49 ⟨Nat.zero_le _, Nat.zero_le _⟩ (fun H locs hW => ?_)
        obtain ⟨i52, h⟩ := lb_chk_in h
        refine lb_ild X hW (show lb_ar 54 = 60 + 1 from rfl) i52 dX9_trust_52 ?_
        refine lv_if_le (tgt := 69) hx hb dX9_trust_53 (by decide) (fun c53 => ?_) (fun c53 => ?_)
        · have h := (if_pos c53).symm.trans h
          refine lv_iconst (v := 0) hx hb dX9_trust_69 rfl ?_
          refine lv_iadd hx hb dX9_trust_70 ?_
          refine lv_topi (fun v71 e71 => ?_)
          have h := lb_letI e71 h
          refine lv_istore_n (lv' := [(2, .int v71), (0, .ref (lb_ad G 53)), (1, .int x1), (3, .int x3)]) hx hb dX9_trust_71 rfl hl (by decide) rfl (fun ls hl => ?_)
          refine lv_iinc (v := (x3 + 1)) (lv' := [(3, .int (x3 + 1)), (2, .int v71), (0, .ref (lb_ad G 53)), (1, .int x1)]) hx hb dX9_trust_72 hl (k := 3) rfl rfl (by decide) rfl (fun ls hl => ?_)
          refine lv_goto (tgt := 18) hx hb dX9_trust_75 (by decide) ?_
          exact ih x1 v71 (x3 + 1) σ _ _ _ h hW (lv_sub hl [2, 3, 1, 0] rfl)
        · have h := (if_neg c53).symm.trans h
          refine lv_aload_n hx hb dX9_trust_56 rfl (lv_at hl 0 rfl) ?_
          refine lv_iload_n hx hb dX9_trust_57 rfl (lv_at hl 3 rfl) ?_
          obtain ⟨q58, e58, h⟩ := lb_bind h
          refine rc_X9_158 X hW e58 ⟨⟨rfl, rfl⟩, Nat.le_of_ble_eq_true rfl, Nat.le_of_ble_eq_true rfl⟩ hl.1 (Nat.le_of_ble_eq_true rfl) dX9_trust_58 ⟨Nat.zero_le _, Nat.zero_le _⟩ (fun H locs hW => ?_)
          refine lv_iconst (v := 1) hx hb dX9_trust_61 rfl ?_
          refine lv_icmp_lt (tgt := 69) hx hb dX9_trust_62 (by decide) (fun c62 => ?_) (fun c62 => ?_)
          · have h := (if_pos c62).symm.trans h
            refine lv_iconst (v := 0) hx hb dX9_trust_69 rfl ?_
            refine lv_iadd hx hb dX9_trust_70 ?_
            refine lv_topi (fun v71 e71 => ?_)
            have h := lb_letI e71 h
            refine lv_istore_n (lv' := [(2, .int v71), (0, .ref (lb_ad G 53)), (1, .int x1), (3, .int x3)]) hx hb dX9_trust_71 rfl hl (by decide) rfl (fun ls hl => ?_)
            refine lv_iinc (v := (x3 + 1)) (lv' := [(3, .int (x3 + 1)), (2, .int v71), (0, .ref (lb_ad G 53)), (1, .int x1)]) hx hb dX9_trust_72 hl (k := 3) rfl rfl (by decide) rfl (fun ls hl => ?_)
            refine lv_goto (tgt := 18) hx hb dX9_trust_75 (by decide) ?_
            exact ih x1 v71 (x3 + 1) σ _ _ _ h hW (lv_sub hl [2, 3, 1, 0] rfl)
          · have h := (if_neg c62).symm.trans h
            refine lv_iconst (v := 1) hx hb dX9_trust_65 rfl ?_
            refine lv_goto (tgt := 70) hx hb dX9_trust_66 (by decide) ?_
            refine lv_iadd hx hb dX9_trust_70 ?_
            refine lv_topi (fun v71 e71 => ?_)
            have h := lb_letI e71 h
            refine lv_istore_n (lv' := [(2, .int v71), (0, .ref (lb_ad G 53)), (1, .int x1), (3, .int x3)]) hx hb dX9_trust_71 rfl hl (by decide) rfl (fun ls hl => ?_)
            refine lv_iinc (v := (x3 + 1)) (lv' := [(3, .int (x3 + 1)), (2, .int v71), (0, .ref (lb_ad G 53)), (1, .int x1)]) hx hb dX9_trust_72 hl (k := 3) rfl rfl (by decide) rfl (fun ls hl => ?_)
            refine lv_goto (tgt := 18) hx hb dX9_trust_75 (by decide) ?_
            exact ih x1 v71 (x3 + 1) σ _ _ _ h hW (lv_sub hl [2, 3, 1, 0] rfl)
def f_X9_trust (x1 : Int32) (σ : lb_Mem) : Option (Int32 × lb_Mem) := if (f_X9_isPerson σ x1) = 0 then (f_X9_no (-1 : Int32) σ).bind (fun q10 => some (q10.1, q10.2)) else f_X9_trust_18 lb_N x1 (0 : Int32) (0 : Int32) σ
set_option maxRecDepth 20000 in
set_option maxHeartbeats 4000000 in
theorem m_X9_trust (l : Launch) (G : lb_G) (σ : lb_Mem) (x1 : Int32) (qr : (Int32 × lb_Mem)) (h : f_X9_trust x1 σ = some qr) : lb_M l yX9_trust cX9_trust 4 (some .int) rmX9_trust [.ref (lb_ad G 53), .int x1] G σ (lb_QI G qr.1 qr.2) := by
  refine lb_start RX9 (by decide +kernel) rfl (Nat.le_of_ble_eq_true rfl) (fun p e s m below meth c X hW ls hl => ?_)
  have hx := X.1
  have hb := X.2.1
  have hl : lv_has ls 4 [(0, .ref (lb_ad G 53)), (1, .int x1)] := hl
  have h : (if (f_X9_isPerson σ x1) = 0 then (f_X9_no (-1 : Int32) σ).bind (fun q10 => some (q10.1, q10.2)) else f_X9_trust_18 lb_N x1 (0 : Int32) (0 : Int32) σ) = some qr := h
  skip
  refine lv_aload_n hx hb dX9_trust_0 rfl (lv_at hl 0 rfl) ?_
  refine lv_iload_n hx hb dX9_trust_1 rfl (lv_at hl 1 rfl) ?_
  refine rc_X9_95 X hW x1 ⟨⟨rfl, rfl⟩, Nat.le_of_ble_eq_true rfl, Nat.le_of_ble_eq_true rfl⟩ hl.1 (Nat.le_of_ble_eq_true rfl) dX9_trust_2 ⟨Nat.zero_le _, Nat.zero_le _⟩ (fun H locs hW => ?_)
  refine lv_if_ne (tgt := 14) hx hb dX9_trust_5 (by decide) (fun c5 => ?_) (fun c5 => ?_)
  · have h := (if_neg c5).symm.trans h
    refine lv_iconst (v := 0) hx hb dX9_trust_14 rfl ?_
    refine lv_istore_n (lv' := [(2, .int (0 : Int32)), (0, .ref (lb_ad G 53)), (1, .int x1)]) hx hb dX9_trust_15 rfl hl (by decide) rfl (fun ls hl => ?_)
    refine lv_iconst (v := 0) hx hb dX9_trust_16 rfl ?_
    refine lv_istore_n (lv' := [(3, .int (0 : Int32)), (2, .int (0 : Int32)), (0, .ref (lb_ad G 53)), (1, .int x1)]) hx hb dX9_trust_17 rfl hl (by decide) rfl (fun ls hl => ?_)
    exact w_X9_trust_18 X lb_N x1 (0 : Int32) (0 : Int32) σ _ _ _ h hW (lv_sub hl [2, 3, 1, 0] rfl)
  · have h := (if_pos c5).symm.trans h
    refine lv_aload_n hx hb dX9_trust_8 rfl (lv_at hl 0 rfl) ?_
    refine lv_iconst (v := -1) hx hb dX9_trust_9 rfl ?_
    obtain ⟨q10, e10, h⟩ := lb_bind h
    refine rc_X9_35 X hW e10 ⟨⟨rfl, rfl⟩, Nat.le_of_ble_eq_true rfl, Nat.le_of_ble_eq_true rfl⟩ hl.1 (Nat.le_of_ble_eq_true rfl) dX9_trust_10 ⟨Nat.zero_le _, Nat.zero_le _⟩ (fun H locs hW => ?_)
    obtain rfl := Option.some.inj h
    exact lb_iret X hW dX9_trust_13
abbrev rmX9_shelf : Room := { frames := 2, cells := 0, slots := 0, locals := 43 }
def f_X9_shelf_40 (kc30 : Int32 → Int32 → Int32 → lb_Mem → Option (Int32 × lb_Mem)) : Nat → Int32 → Int32 → Int32 → Int32 → lb_Mem → Option (Int32 × lb_Mem)
  | 0, _, _, _, _, _ => none
  | n + 1, x1, x3, x4, x5, σ => if (σ 54 (0 : Int32).toNatClampNeg) ≤ x5 then kc30 x1 x3 (x4 + 1) σ else lb_chk (lb_ix (f_X9_ofT x5 (5 : Int32)) 61) (if (σ 54 (f_X9_ofT x5 (5 : Int32)).toNatClampNeg) = x1 then lb_chk (lb_ix (f_X9_ofT x5 (3 : Int32)) 61) (if (σ 54 (f_X9_ofT x5 (3 : Int32)).toNatClampNeg) = x4 then if x3 = 0 then some (x5, σ) else f_X9_shelf_40 kc30 n x1 (x3 + (-1)) x4 (x5 + 1) σ else f_X9_shelf_40 kc30 n x1 x3 x4 (x5 + 1) σ) else f_X9_shelf_40 kc30 n x1 x3 x4 (x5 + 1) σ)
set_option maxRecDepth 20000 in
set_option maxHeartbeats 4000000 in
theorem w_X9_shelf_40 {p : Program} {l : Launch} {e : Env} {s : State} {m : MethodId} {args : Array Value} {below : List Frame} {meth : Method} {c : Code} {G : lb_G} {qr : (Int32 × lb_Mem)} (X : lb_C G p s m args meth c cX9_shelf 6 RX9 (some .int)) {kc30 : Int32 → Int32 → Int32 → lb_Mem → Option (Int32 × lb_Mem)} (hc30 : ∀ (x1 : Int32) (x3 : Int32) (x4 : Int32) (σ : lb_Mem) (H : Heap) (locs : List Loc) (ls : Array Slot), kc30 x1 x3 x4 σ = some qr → lb_W G s σ H locs → lv_has ls 6 [(0, .ref (lb_ad G 53)), (1, .int x1), (3, .int x3), (4, .int x4)] → W p l e rmX9_shelf s m args below meth c H locs 0 0 (MQ below (lb_QI G qr.1 qr.2) args s 0 0 (lb_A G)) (F0 m 30 ls [])) : ∀ (n : Nat) (x1 : Int32) (x3 : Int32) (x4 : Int32) (x5 : Int32) (σ : lb_Mem) (H : Heap) (locs : List Loc) (ls : Array Slot), f_X9_shelf_40 kc30 n x1 x3 x4 x5 σ = some qr → lb_W G s σ H locs → lv_has ls 6 [(0, .ref (lb_ad G 53)), (1, .int x1), (3, .int x3), (4, .int x4), (5, .int x5)] → W p l e rmX9_shelf s m args below meth c H locs 0 0 (MQ below (lb_QI G qr.1 qr.2) args s 0 0 (lb_A G)) (F0 m 40 ls []) := by
  have hx := X.1
  have hb := X.2.1
  intro n
  induction n with
  | zero => intro x1 x3 x4 x5 σ H locs ls h hW hl; exact absurd h (fun z => by cases z)
  | succ n ih =>
    intro x1 x3 x4 x5 σ H locs ls h hW hl
    have h : (if (σ 54 (0 : Int32).toNatClampNeg) ≤ x5 then kc30 x1 x3 (x4 + 1) σ else lb_chk (lb_ix (f_X9_ofT x5 (5 : Int32)) 61) (if (σ 54 (f_X9_ofT x5 (5 : Int32)).toNatClampNeg) = x1 then lb_chk (lb_ix (f_X9_ofT x5 (3 : Int32)) 61) (if (σ 54 (f_X9_ofT x5 (3 : Int32)).toNatClampNeg) = x4 then if x3 = 0 then some (x5, σ) else f_X9_shelf_40 kc30 n x1 (x3 + (-1)) x4 (x5 + 1) σ else f_X9_shelf_40 kc30 n x1 x3 x4 (x5 + 1) σ) else f_X9_shelf_40 kc30 n x1 x3 x4 (x5 + 1) σ)) = some qr := h
    refine lv_iload hx hb dX9_shelf_40 (lv_at hl 4 rfl) ?_
    refine lv_aload_n hx hb dX9_shelf_42 rfl (lv_at hl 0 rfl) ?_
    refine rg_X9_9 X hW dX9_shelf_43 ?_
    refine lv_iconst (v := 0) hx hb dX9_shelf_46 rfl ?_
    refine lb_ild X hW (show lb_ar 54 = 60 + 1 from rfl) (lb_inC rfl) dX9_shelf_47 ?_
    refine lv_icmp_ge (tgt := 101) hx hb dX9_shelf_48 (by decide) (fun c48 => ?_) (fun c48 => ?_)
    · have h := (if_pos c48).symm.trans h
      refine lv_iinc (v := (x4 + 1)) (lv' := [(4, .int (x4 + 1)), (0, .ref (lb_ad G 53)), (1, .int x1), (3, .int x3), (5, .int x5)]) hx hb dX9_shelf_101 hl (k := 3) rfl rfl (by decide) rfl (fun ls hl => ?_)
      refine lv_goto (tgt := 30) hx hb dX9_shelf_104 (by decide) ?_
      exact hc30 x1 x3 (x4 + 1) σ _ _ _ h hW (lv_sub hl [1, 2, 3, 0] rfl)
    · have h := (if_neg c48).symm.trans h
      refine lv_aload_n hx hb dX9_shelf_51 rfl (lv_at hl 0 rfl) ?_
      refine rg_X9_9 X hW dX9_shelf_52 ?_
      refine lv_iload hx hb dX9_shelf_55 (lv_at hl 4 rfl) ?_
      refine lv_iconst (v := 5) hx hb dX9_shelf_57 rfl ?_
      refine rc_X9_45 X hW x5 (5 : Int32) ⟨⟨rfl, rfl⟩, Nat.le_of_ble_eq_true rfl, Nat.le_of_ble_eq_true rfl⟩ hl.1 (Nat.le_of_ble_eq_true rfl) dX9_shelf_58 ⟨Nat.zero_le _, Nat.zero_le _⟩ (fun H locs hW => ?_)
      obtain ⟨i61, h⟩ := lb_chk_in h
      refine lb_ild X hW (show lb_ar 54 = 60 + 1 from rfl) i61 dX9_shelf_61 ?_
      refine lv_iload_n hx hb dX9_shelf_62 rfl (lv_at hl 1 rfl) ?_
      refine lv_icmp_ne (tgt := 95) hx hb dX9_shelf_63 (by decide) (fun c63 => ?_) (fun c63 => ?_)
      · have h := (if_neg c63).symm.trans h
        refine lv_iinc (v := (x5 + 1)) (lv' := [(5, .int (x5 + 1)), (0, .ref (lb_ad G 53)), (1, .int x1), (3, .int x3), (4, .int x4)]) hx hb dX9_shelf_95 hl (k := 4) rfl rfl (by decide) rfl (fun ls hl => ?_)
        refine lv_goto (tgt := 40) hx hb dX9_shelf_98 (by decide) ?_
        exact ih x1 x3 x4 (x5 + 1) σ _ _ _ h hW (lv_sub hl [1, 2, 3, 4, 0] rfl)
      · have h := (if_pos c63).symm.trans h
        refine lv_aload_n hx hb dX9_shelf_66 rfl (lv_at hl 0 rfl) ?_
        refine rg_X9_9 X hW dX9_shelf_67 ?_
        refine lv_iload hx hb dX9_shelf_70 (lv_at hl 4 rfl) ?_
        refine lv_iconst (v := 3) hx hb dX9_shelf_72 rfl ?_
        refine rc_X9_45 X hW x5 (3 : Int32) ⟨⟨rfl, rfl⟩, Nat.le_of_ble_eq_true rfl, Nat.le_of_ble_eq_true rfl⟩ hl.1 (Nat.le_of_ble_eq_true rfl) dX9_shelf_73 ⟨Nat.zero_le _, Nat.zero_le _⟩ (fun H locs hW => ?_)
        obtain ⟨i76, h⟩ := lb_chk_in h
        refine lb_ild X hW (show lb_ar 54 = 60 + 1 from rfl) i76 dX9_shelf_76 ?_
        refine lv_iload hx hb dX9_shelf_77 (lv_at hl 3 rfl) ?_
        refine lv_icmp_eq (tgt := 85) hx hb dX9_shelf_79 (by decide) (fun c79 => ?_) (fun c79 => ?_)
        · have h := (if_pos c79).symm.trans h
          refine lv_iload_n hx hb dX9_shelf_85 rfl (lv_at hl 2 rfl) ?_
          refine lv_if_ne (tgt := 92) hx hb dX9_shelf_86 (by decide) (fun c86 => ?_) (fun c86 => ?_)
          · have h := (if_neg c86).symm.trans h
            refine lv_iinc (v := (x3 + (-1))) (lv' := [(3, .int (x3 + (-1))), (0, .ref (lb_ad G 53)), (1, .int x1), (4, .int x4), (5, .int x5)]) hx hb dX9_shelf_92 hl (k := 2) rfl rfl (by decide) rfl (fun ls hl => ?_)
            refine lv_iinc (v := (x5 + 1)) (lv' := [(5, .int (x5 + 1)), (3, .int (x3 + (-1))), (0, .ref (lb_ad G 53)), (1, .int x1), (4, .int x4)]) hx hb dX9_shelf_95 hl (k := 4) rfl rfl (by decide) rfl (fun ls hl => ?_)
            refine lv_goto (tgt := 40) hx hb dX9_shelf_98 (by decide) ?_
            exact ih x1 (x3 + (-1)) x4 (x5 + 1) σ _ _ _ h hW (lv_sub hl [2, 3, 1, 4, 0] rfl)
          · have h := (if_pos c86).symm.trans h
            refine lv_iload hx hb dX9_shelf_89 (lv_at hl 4 rfl) ?_
            obtain rfl := Option.some.inj h
            exact lb_iret X hW dX9_shelf_91
        · have h := (if_neg c79).symm.trans h
          refine lv_goto (tgt := 95) hx hb dX9_shelf_82 (by decide) ?_
          refine lv_iinc (v := (x5 + 1)) (lv' := [(5, .int (x5 + 1)), (0, .ref (lb_ad G 53)), (1, .int x1), (3, .int x3), (4, .int x4)]) hx hb dX9_shelf_95 hl (k := 4) rfl rfl (by decide) rfl (fun ls hl => ?_)
          refine lv_goto (tgt := 40) hx hb dX9_shelf_98 (by decide) ?_
          exact ih x1 x3 x4 (x5 + 1) σ _ _ _ h hW (lv_sub hl [1, 2, 3, 4, 0] rfl)
def f_X9_shelf_30 : Nat → Int32 → Int32 → Int32 → lb_Mem → Option (Int32 × lb_Mem)
  | 0, _, _, _, _ => none
  | n + 1, x1, x3, x4, σ => if (6 : Int32) < x4 then some ((-9 : Int32), σ) else f_X9_shelf_40 (fun (x1 : Int32) (x3 : Int32) (x4 : Int32) (σ : lb_Mem) => f_X9_shelf_30 n x1 x3 x4 σ) lb_N x1 x3 x4 (0 : Int32) σ
set_option maxRecDepth 20000 in
set_option maxHeartbeats 4000000 in
theorem w_X9_shelf_30 {p : Program} {l : Launch} {e : Env} {s : State} {m : MethodId} {args : Array Value} {below : List Frame} {meth : Method} {c : Code} {G : lb_G} {qr : (Int32 × lb_Mem)} (X : lb_C G p s m args meth c cX9_shelf 6 RX9 (some .int)) : ∀ (n : Nat) (x1 : Int32) (x3 : Int32) (x4 : Int32) (σ : lb_Mem) (H : Heap) (locs : List Loc) (ls : Array Slot), f_X9_shelf_30 n x1 x3 x4 σ = some qr → lb_W G s σ H locs → lv_has ls 6 [(0, .ref (lb_ad G 53)), (1, .int x1), (3, .int x3), (4, .int x4)] → W p l e rmX9_shelf s m args below meth c H locs 0 0 (MQ below (lb_QI G qr.1 qr.2) args s 0 0 (lb_A G)) (F0 m 30 ls []) := by
  have hx := X.1
  have hb := X.2.1
  intro n
  induction n with
  | zero => intro x1 x3 x4 σ H locs ls h hW hl; exact absurd h (fun z => by cases z)
  | succ n ih =>
    intro x1 x3 x4 σ H locs ls h hW hl
    have h : (if (6 : Int32) < x4 then some ((-9 : Int32), σ) else f_X9_shelf_40 (fun (x1 : Int32) (x3 : Int32) (x4 : Int32) (σ : lb_Mem) => f_X9_shelf_30 n x1 x3 x4 σ) lb_N x1 x3 x4 (0 : Int32) σ) = some qr := h
    refine lv_iload hx hb dX9_shelf_30 (lv_at hl 3 rfl) ?_
    refine lv_bipush (v := 6) hx hb dX9_shelf_32 rfl ?_
    refine lv_icmp_gt (tgt := 107) hx hb dX9_shelf_34 (by decide) (fun c34 => ?_) (fun c34 => ?_)
    · have h := (if_pos c34).symm.trans h
      refine lv_bipush (v := -9) hx hb dX9_shelf_107 rfl ?_
      obtain rfl := Option.some.inj h
      exact lb_iret X hW dX9_shelf_109
    · have h := (if_neg c34).symm.trans h
      refine lv_iconst (v := 0) hx hb dX9_shelf_37 rfl ?_
      refine lv_istore (lv' := [(5, .int (0 : Int32)), (0, .ref (lb_ad G 53)), (1, .int x1), (3, .int x3), (4, .int x4)]) hx hb dX9_shelf_38 hl (by decide) rfl (fun ls hl => ?_)
      exact w_X9_shelf_40 X ih lb_N x1 x3 x4 (0 : Int32) σ _ _ _ h hW (lv_sub hl [1, 2, 3, 4, 0] rfl)
def f_X9_shelf (x1 : Int32) (x2 : Int32) (σ : lb_Mem) : Option (Int32 × lb_Mem) := if (f_X9_isPerson σ x1) = 0 then (f_X9_no (-1 : Int32) σ).bind (fun q10 => some (q10.1, q10.2)) else if 0 ≤ x2 then f_X9_shelf_30 lb_N x1 x2 (0 : Int32) σ else (f_X9_no (-4 : Int32) σ).bind (fun q21 => some (q21.1, q21.2))
set_option maxRecDepth 20000 in
set_option maxHeartbeats 4000000 in
theorem m_X9_shelf (l : Launch) (G : lb_G) (σ : lb_Mem) (x1 : Int32) (x2 : Int32) (qr : (Int32 × lb_Mem)) (h : f_X9_shelf x1 x2 σ = some qr) : lb_M l yX9_shelf cX9_shelf 6 (some .int) rmX9_shelf [.ref (lb_ad G 53), .int x1, .int x2] G σ (lb_QI G qr.1 qr.2) := by
  refine lb_start RX9 (by decide +kernel) rfl (Nat.le_of_ble_eq_true rfl) (fun p e s m below meth c X hW ls hl => ?_)
  have hx := X.1
  have hb := X.2.1
  have hl : lv_has ls 6 [(0, .ref (lb_ad G 53)), (1, .int x1), (2, .int x2)] := hl
  have h : (if (f_X9_isPerson σ x1) = 0 then (f_X9_no (-1 : Int32) σ).bind (fun q10 => some (q10.1, q10.2)) else if 0 ≤ x2 then f_X9_shelf_30 lb_N x1 x2 (0 : Int32) σ else (f_X9_no (-4 : Int32) σ).bind (fun q21 => some (q21.1, q21.2))) = some qr := h
  skip
  refine lv_aload_n hx hb dX9_shelf_0 rfl (lv_at hl 0 rfl) ?_
  refine lv_iload_n hx hb dX9_shelf_1 rfl (lv_at hl 1 rfl) ?_
  refine rc_X9_95 X hW x1 ⟨⟨rfl, rfl⟩, Nat.le_of_ble_eq_true rfl, Nat.le_of_ble_eq_true rfl⟩ hl.1 (Nat.le_of_ble_eq_true rfl) dX9_shelf_2 ⟨Nat.zero_le _, Nat.zero_le _⟩ (fun H locs hW => ?_)
  refine lv_if_ne (tgt := 14) hx hb dX9_shelf_5 (by decide) (fun c5 => ?_) (fun c5 => ?_)
  · have h := (if_neg c5).symm.trans h
    refine lv_iload_n hx hb dX9_shelf_14 rfl (lv_at hl 2 rfl) ?_
    refine lv_if_ge (tgt := 25) hx hb dX9_shelf_15 (by decide) (fun c15 => ?_) (fun c15 => ?_)
    · have h := (if_pos c15).symm.trans h
      refine lv_iload_n hx hb dX9_shelf_25 rfl (lv_at hl 2 rfl) ?_
      refine lv_istore_n (lv' := [(3, .int x2), (0, .ref (lb_ad G 53)), (1, .int x1), (2, .int x2)]) hx hb dX9_shelf_26 rfl hl (by decide) rfl (fun ls hl => ?_)
      refine lv_iconst (v := 0) hx hb dX9_shelf_27 rfl ?_
      refine lv_istore (lv' := [(4, .int (0 : Int32)), (3, .int x2), (0, .ref (lb_ad G 53)), (1, .int x1), (2, .int x2)]) hx hb dX9_shelf_28 hl (by decide) rfl (fun ls hl => ?_)
      exact w_X9_shelf_30 X lb_N x1 x2 (0 : Int32) σ _ _ _ h hW (lv_sub hl [2, 3, 1, 0] rfl)
    · have h := (if_neg c15).symm.trans h
      refine lv_aload_n hx hb dX9_shelf_18 rfl (lv_at hl 0 rfl) ?_
      refine lv_bipush (v := -4) hx hb dX9_shelf_19 rfl ?_
      obtain ⟨q21, e21, h⟩ := lb_bind h
      refine rc_X9_35 X hW e21 ⟨⟨rfl, rfl⟩, Nat.le_of_ble_eq_true rfl, Nat.le_of_ble_eq_true rfl⟩ hl.1 (Nat.le_of_ble_eq_true rfl) dX9_shelf_21 ⟨Nat.zero_le _, Nat.zero_le _⟩ (fun H locs hW => ?_)
      obtain rfl := Option.some.inj h
      exact lb_iret X hW dX9_shelf_24
  · have h := (if_pos c5).symm.trans h
    refine lv_aload_n hx hb dX9_shelf_8 rfl (lv_at hl 0 rfl) ?_
    refine lv_iconst (v := -1) hx hb dX9_shelf_9 rfl ?_
    obtain ⟨q10, e10, h⟩ := lb_bind h
    refine rc_X9_35 X hW e10 ⟨⟨rfl, rfl⟩, Nat.le_of_ble_eq_true rfl, Nat.le_of_ble_eq_true rfl⟩ hl.1 (Nat.le_of_ble_eq_true rfl) dX9_shelf_10 ⟨Nat.zero_le _, Nat.zero_le _⟩ (fun H locs hW => ?_)
    obtain rfl := Option.some.inj h
    exact lb_iret X hW dX9_shelf_13
abbrev rmX9_spoonsOf : Room := { frames := 1, cells := 0, slots := 0, locals := 21 }
def f_X9_spoonsOf_4 (σ : lb_Mem) : Nat → Int32 → Int32 → Int32 → Option Int32
  | 0, _, _, _ => none
  | n + 1, x1, x2, x3 => if (σ 54 (0 : Int32).toNatClampNeg) ≤ x3 then some x2 else lb_chk (lb_ix (f_X9_ofT x3 (2 : Int32)) 61) (if (σ 54 (f_X9_ofT x3 (2 : Int32)).toNatClampNeg) = x1 then lb_chk (lb_ix (f_X9_ofT x3 (4 : Int32)) 61) (lb_let ((x2 + (σ 54 (f_X9_ofT x3 (4 : Int32)).toNatClampNeg))) (fun v44 : Int32 => f_X9_spoonsOf_4 σ n x1 v44 (x3 + 1))) else lb_let ((x2 + (0 : Int32))) (fun v44 : Int32 => f_X9_spoonsOf_4 σ n x1 v44 (x3 + 1)))
set_option maxRecDepth 20000 in
set_option maxHeartbeats 4000000 in
theorem w_X9_spoonsOf_4 {p : Program} {l : Launch} {e : Env} {s : State} {m : MethodId} {args : Array Value} {below : List Frame} {meth : Method} {c : Code} {G : lb_G} {σ : lb_Mem} {qr : Int32} (X : lb_C G p s m args meth c cX9_spoonsOf 4 RX9 (some .int)) : ∀ (n : Nat) (x1 : Int32) (x2 : Int32) (x3 : Int32) (H : Heap) (locs : List Loc) (ls : Array Slot), f_X9_spoonsOf_4 σ n x1 x2 x3 = some qr → lb_W G s σ H locs → lv_has ls 4 [(0, .ref (lb_ad G 53)), (1, .int x1), (2, .int x2), (3, .int x3)] → W p l e rmX9_spoonsOf s m args below meth c H locs 0 0 (MQ below (lb_QI G qr σ) args s 0 0 (lb_A G)) (F0 m 4 ls []) := by
  have hx := X.1
  have hb := X.2.1
  intro n
  induction n with
  | zero => intro x1 x2 x3 H locs ls h hW hl; exact absurd h (fun z => by cases z)
  | succ n ih =>
    intro x1 x2 x3 H locs ls h hW hl
    have h : (if (σ 54 (0 : Int32).toNatClampNeg) ≤ x3 then some x2 else lb_chk (lb_ix (f_X9_ofT x3 (2 : Int32)) 61) (if (σ 54 (f_X9_ofT x3 (2 : Int32)).toNatClampNeg) = x1 then lb_chk (lb_ix (f_X9_ofT x3 (4 : Int32)) 61) (lb_let ((x2 + (σ 54 (f_X9_ofT x3 (4 : Int32)).toNatClampNeg))) (fun v44 : Int32 => f_X9_spoonsOf_4 σ n x1 v44 (x3 + 1))) else lb_let ((x2 + (0 : Int32))) (fun v44 : Int32 => f_X9_spoonsOf_4 σ n x1 v44 (x3 + 1)))) = some qr := h
    refine lv_iload_n hx hb dX9_spoonsOf_4 rfl (lv_at hl 3 rfl) ?_
    refine lv_aload_n hx hb dX9_spoonsOf_5 rfl (lv_at hl 0 rfl) ?_
    refine rg_X9_9 X hW dX9_spoonsOf_6 ?_
    refine lv_iconst (v := 0) hx hb dX9_spoonsOf_9 rfl ?_
    refine lb_ild X hW (show lb_ar 54 = 60 + 1 from rfl) (lb_inC rfl) dX9_spoonsOf_10 ?_
    refine lv_icmp_ge (tgt := 51) hx hb dX9_spoonsOf_11 (by decide) (fun c11 => ?_) (fun c11 => ?_)
    · have h := (if_pos c11).symm.trans h
      refine lv_iload_n hx hb dX9_spoonsOf_51 rfl (lv_at hl 2 rfl) ?_
      obtain rfl := Option.some.inj h
      exact lb_iret X hW dX9_spoonsOf_52
    · have h := (if_neg c11).symm.trans h
      refine lv_iload_n hx hb dX9_spoonsOf_14 rfl (lv_at hl 2 rfl) ?_
      refine lv_aload_n hx hb dX9_spoonsOf_15 rfl (lv_at hl 0 rfl) ?_
      refine rg_X9_9 X hW dX9_spoonsOf_16 ?_
      refine lv_iload_n hx hb dX9_spoonsOf_19 rfl (lv_at hl 3 rfl) ?_
      refine lv_iconst (v := 2) hx hb dX9_spoonsOf_20 rfl ?_
      refine rc_X9_45 X hW x3 (2 : Int32) ⟨⟨rfl, rfl⟩, Nat.le_of_ble_eq_true rfl, Nat.le_of_ble_eq_true rfl⟩ hl.1 (Nat.le_of_ble_eq_true rfl) dX9_spoonsOf_21 ⟨Nat.zero_le _, Nat.zero_le _⟩ (fun H locs hW => ?_)
      obtain ⟨i24, h⟩ := lb_chk_in h
      refine lb_ild X hW (show lb_ar 54 = 60 + 1 from rfl) i24 dX9_spoonsOf_24 ?_
      refine lv_iload_n hx hb dX9_spoonsOf_25 rfl (lv_at hl 1 rfl) ?_
      refine lv_icmp_ne (tgt := 42) hx hb dX9_spoonsOf_26 (by decide) (fun c26 => ?_) (fun c26 => ?_)
      · have h := (if_neg c26).symm.trans h
        refine lv_iconst (v := 0) hx hb dX9_spoonsOf_42 rfl ?_
        refine lv_iadd hx hb dX9_spoonsOf_43 ?_
        refine lv_topi (fun v44 e44 => ?_)
        have h := lb_letI e44 h
        refine lv_istore_n (lv' := [(2, .int v44), (0, .ref (lb_ad G 53)), (1, .int x1), (3, .int x3)]) hx hb dX9_spoonsOf_44 rfl hl (by decide) rfl (fun ls hl => ?_)
        refine lv_iinc (v := (x3 + 1)) (lv' := [(3, .int (x3 + 1)), (2, .int v44), (0, .ref (lb_ad G 53)), (1, .int x1)]) hx hb dX9_spoonsOf_45 hl (k := 3) rfl rfl (by decide) rfl (fun ls hl => ?_)
        refine lv_goto (tgt := 4) hx hb dX9_spoonsOf_48 (by decide) ?_
        exact ih x1 v44 (x3 + 1) _ _ _ h hW (lv_sub hl [2, 3, 1, 0] rfl)
      · have h := (if_pos c26).symm.trans h
        refine lv_aload_n hx hb dX9_spoonsOf_29 rfl (lv_at hl 0 rfl) ?_
        refine rg_X9_9 X hW dX9_spoonsOf_30 ?_
        refine lv_iload_n hx hb dX9_spoonsOf_33 rfl (lv_at hl 3 rfl) ?_
        refine lv_iconst (v := 4) hx hb dX9_spoonsOf_34 rfl ?_
        refine rc_X9_45 X hW x3 (4 : Int32) ⟨⟨rfl, rfl⟩, Nat.le_of_ble_eq_true rfl, Nat.le_of_ble_eq_true rfl⟩ hl.1 (Nat.le_of_ble_eq_true rfl) dX9_spoonsOf_35 ⟨Nat.zero_le _, Nat.zero_le _⟩ (fun H locs hW => ?_)
        obtain ⟨i38, h⟩ := lb_chk_in h
        refine lb_ild X hW (show lb_ar 54 = 60 + 1 from rfl) i38 dX9_spoonsOf_38 ?_
        refine lv_goto (tgt := 43) hx hb dX9_spoonsOf_39 (by decide) ?_
        refine lv_iadd hx hb dX9_spoonsOf_43 ?_
        refine lv_topi (fun v44 e44 => ?_)
        have h := lb_letI e44 h
        refine lv_istore_n (lv' := [(2, .int v44), (0, .ref (lb_ad G 53)), (1, .int x1), (3, .int x3)]) hx hb dX9_spoonsOf_44 rfl hl (by decide) rfl (fun ls hl => ?_)
        refine lv_iinc (v := (x3 + 1)) (lv' := [(3, .int (x3 + 1)), (2, .int v44), (0, .ref (lb_ad G 53)), (1, .int x1)]) hx hb dX9_spoonsOf_45 hl (k := 3) rfl rfl (by decide) rfl (fun ls hl => ?_)
        refine lv_goto (tgt := 4) hx hb dX9_spoonsOf_48 (by decide) ?_
        exact ih x1 v44 (x3 + 1) _ _ _ h hW (lv_sub hl [2, 3, 1, 0] rfl)
def f_X9_spoonsOf (σ : lb_Mem) (x1 : Int32) : Option Int32 := f_X9_spoonsOf_4 σ lb_N x1 (0 : Int32) (0 : Int32)
set_option maxRecDepth 20000 in
set_option maxHeartbeats 4000000 in
theorem m_X9_spoonsOf (l : Launch) (G : lb_G) (σ : lb_Mem) (x1 : Int32) (qr : Int32) (h : f_X9_spoonsOf σ x1 = some qr) : lb_M l yX9_spoonsOf cX9_spoonsOf 4 (some .int) rmX9_spoonsOf [.ref (lb_ad G 53), .int x1] G σ (lb_QI G qr σ) := by
  refine lb_start RX9 (by decide +kernel) rfl (Nat.le_of_ble_eq_true rfl) (fun p e s m below meth c X hW ls hl => ?_)
  have hx := X.1
  have hb := X.2.1
  have hl : lv_has ls 4 [(0, .ref (lb_ad G 53)), (1, .int x1)] := hl
  have h : (f_X9_spoonsOf_4 σ lb_N x1 (0 : Int32) (0 : Int32)) = some qr := h
  skip
  refine lv_iconst (v := 0) hx hb dX9_spoonsOf_0 rfl ?_
  refine lv_istore_n (lv' := [(2, .int (0 : Int32)), (0, .ref (lb_ad G 53)), (1, .int x1)]) hx hb dX9_spoonsOf_1 rfl hl (by decide) rfl (fun ls hl => ?_)
  refine lv_iconst (v := 0) hx hb dX9_spoonsOf_2 rfl ?_
  refine lv_istore_n (lv' := [(3, .int (0 : Int32)), (2, .int (0 : Int32)), (0, .ref (lb_ad G 53)), (1, .int x1)]) hx hb dX9_spoonsOf_3 rfl hl (by decide) rfl (fun ls hl => ?_)
  exact w_X9_spoonsOf_4 X lb_N x1 (0 : Int32) (0 : Int32) _ _ _ h hW (lv_sub hl [2, 3, 1, 0] rfl)
theorem rc_X9_161 {p : Program} {l : Launch} {e : Env} {R : Room} {s : State} {m : MethodId} {args : Array Value} {below : List Frame} {meth : Method} {c : Code} {H : Heap} {locs : List Loc} {cells slots : Nat} {Q : State → Prop} {cc : ByteArray} {pc nL : Nat} {ls : Array Slot} {rest : List Value} {G : lb_G} {σ : lb_Mem} {ret : Option FieldType} (X : lb_C G p s m args meth c cc nL RX9 ret) (hW : lb_W G s σ H locs) {x1 : Int32} {qr : Int32} (h : f_X9_spoonsOf σ x1 = some qr) (hR : lb_room rmX9_spoonsOf R 4) (hls : ls.size = nL) (hrest : (rest.map fun v => v.category).sum ≤ 8) (d : decode cc pc = .ok (.invokevirtual 161, 3)) (hcap : cells ≤ R.cells ∧ slots ≤ R.slots) (kk : ∀ (H1 : Heap) (locs1 : List Loc), lb_W G s σ H1 locs1 → W p l e R s m args below meth c H1 locs1 cells slots Q (F0 m (pc + 3) ls (.int qr :: rest))) : W p l e R s m args below meth c H locs cells slots Q (F0 m pc ls (.int x1 :: .ref (lb_ad G 53) :: rest)) :=
  lb_goI hW (lb_runV (As := [.int x1]) X hW (m_X9_spoonsOf l G σ x1 qr h) (n := 1) ⟨qw_1033, qw_52, qw_1036, by decide +kernel⟩ hR qw_1035 qw_37 lb_is53 rfl hls hrest d hcap) kk
abbrev rmX9_sorts : Room := { frames := 2, cells := 0, slots := 0, locals := 44 }
def f_X9_sorts_79 : Nat → Int32 → Int32 → Int32 → Int32 → Int32 → lb_Mem → Option (Int32 × lb_Mem)
  | 0, _, _, _, _, _, _ => none
  | n + 1, x1, x2, x3, x4, x5, σ => if (σ 54 (0 : Int32).toNatClampNeg) ≤ x5 then if x1 = 0 then some (x2, σ) else if x1 = (1 : Int32) then some (x3, σ) else some ((x4 &&& (x2 ^^^ (-1 : Int32))), σ) else lb_chk (lb_ix (f_X9_ofT x5 (3 : Int32)) 61) (if (6 : Int32) ≤ (σ 54 (f_X9_ofT x5 (3 : Int32)).toNatClampNeg) then lb_let ((x4 ||| (0 : Int32))) (fun v126 : Int32 => f_X9_sorts_79 n x1 x2 x3 v126 (x5 + 1) σ) else lb_chk (lb_ix (f_X9_ofT x5 (3 : Int32)) 61) (lb_let ((x4 ||| ((1 : Int32) <<< ((σ 54 (f_X9_ofT x5 (3 : Int32)).toNatClampNeg) &&& 31)))) (fun v126 : Int32 => f_X9_sorts_79 n x1 x2 x3 v126 (x5 + 1) σ)))
set_option maxRecDepth 20000 in
set_option maxHeartbeats 4000000 in
theorem w_X9_sorts_79 {p : Program} {l : Launch} {e : Env} {s : State} {m : MethodId} {args : Array Value} {below : List Frame} {meth : Method} {c : Code} {G : lb_G} {qr : (Int32 × lb_Mem)} (X : lb_C G p s m args meth c cX9_sorts 6 RX9 (some .int)) : ∀ (n : Nat) (x1 : Int32) (x2 : Int32) (x3 : Int32) (x4 : Int32) (x5 : Int32) (σ : lb_Mem) (H : Heap) (locs : List Loc) (ls : Array Slot), f_X9_sorts_79 n x1 x2 x3 x4 x5 σ = some qr → lb_W G s σ H locs → lv_has ls 6 [(0, .ref (lb_ad G 53)), (1, .int x1), (2, .int x2), (3, .int x3), (4, .int x4), (5, .int x5)] → W p l e rmX9_sorts s m args below meth c H locs 0 0 (MQ below (lb_QI G qr.1 qr.2) args s 0 0 (lb_A G)) (F0 m 79 ls []) := by
  have hx := X.1
  have hb := X.2.1
  intro n
  induction n with
  | zero => intro x1 x2 x3 x4 x5 σ H locs ls h hW hl; exact absurd h (fun z => by cases z)
  | succ n ih =>
    intro x1 x2 x3 x4 x5 σ H locs ls h hW hl
    have h : (if (σ 54 (0 : Int32).toNatClampNeg) ≤ x5 then if x1 = 0 then some (x2, σ) else if x1 = (1 : Int32) then some (x3, σ) else some ((x4 &&& (x2 ^^^ (-1 : Int32))), σ) else lb_chk (lb_ix (f_X9_ofT x5 (3 : Int32)) 61) (if (6 : Int32) ≤ (σ 54 (f_X9_ofT x5 (3 : Int32)).toNatClampNeg) then lb_let ((x4 ||| (0 : Int32))) (fun v126 : Int32 => f_X9_sorts_79 n x1 x2 x3 v126 (x5 + 1) σ) else lb_chk (lb_ix (f_X9_ofT x5 (3 : Int32)) 61) (lb_let ((x4 ||| ((1 : Int32) <<< ((σ 54 (f_X9_ofT x5 (3 : Int32)).toNatClampNeg) &&& 31)))) (fun v126 : Int32 => f_X9_sorts_79 n x1 x2 x3 v126 (x5 + 1) σ)))) = some qr := h
    refine lv_iload hx hb dX9_sorts_79 (lv_at hl 5 rfl) ?_
    refine lv_aload_n hx hb dX9_sorts_81 rfl (lv_at hl 0 rfl) ?_
    refine rg_X9_9 X hW dX9_sorts_82 ?_
    refine lv_iconst (v := 0) hx hb dX9_sorts_85 rfl ?_
    refine lb_ild X hW (show lb_ar 54 = 60 + 1 from rfl) (lb_inC rfl) dX9_sorts_86 ?_
    refine lv_icmp_ge (tgt := 134) hx hb dX9_sorts_87 (by decide) (fun c87 => ?_) (fun c87 => ?_)
    · have h := (if_pos c87).symm.trans h
      refine lv_iload_n hx hb dX9_sorts_134 rfl (lv_at hl 1 rfl) ?_
      refine lv_if_ne (tgt := 142) hx hb dX9_sorts_135 (by decide) (fun c135 => ?_) (fun c135 => ?_)
      · have h := (if_neg c135).symm.trans h
        refine lv_iload_n hx hb dX9_sorts_142 rfl (lv_at hl 1 rfl) ?_
        refine lv_iconst (v := 1) hx hb dX9_sorts_143 rfl ?_
        refine lv_icmp_ne (tgt := 151) hx hb dX9_sorts_144 (by decide) (fun c144 => ?_) (fun c144 => ?_)
        · have h := (if_neg c144).symm.trans h
          refine lv_iload hx hb dX9_sorts_151 (lv_at hl 4 rfl) ?_
          refine lv_iload_n hx hb dX9_sorts_153 rfl (lv_at hl 2 rfl) ?_
          refine lv_iconst (v := -1) hx hb dX9_sorts_154 rfl ?_
          refine lv_ixor hx hb dX9_sorts_155 ?_
          refine lv_iand hx hb dX9_sorts_156 ?_
          obtain rfl := Option.some.inj h
          exact lb_iret X hW dX9_sorts_157
        · have h := (if_pos c144).symm.trans h
          refine lv_iload_n hx hb dX9_sorts_147 rfl (lv_at hl 3 rfl) ?_
          refine lv_goto (tgt := 157) hx hb dX9_sorts_148 (by decide) ?_
          obtain rfl := Option.some.inj h
          exact lb_iret X hW dX9_sorts_157
      · have h := (if_pos c135).symm.trans h
        refine lv_iload_n hx hb dX9_sorts_138 rfl (lv_at hl 2 rfl) ?_
        refine lv_goto (tgt := 157) hx hb dX9_sorts_139 (by decide) ?_
        obtain rfl := Option.some.inj h
        exact lb_iret X hW dX9_sorts_157
    · have h := (if_neg c87).symm.trans h
      refine lv_iload hx hb dX9_sorts_90 (lv_at hl 4 rfl) ?_
      refine lv_aload_n hx hb dX9_sorts_92 rfl (lv_at hl 0 rfl) ?_
      refine rg_X9_9 X hW dX9_sorts_93 ?_
      refine lv_iload hx hb dX9_sorts_96 (lv_at hl 5 rfl) ?_
      refine lv_iconst (v := 3) hx hb dX9_sorts_98 rfl ?_
      refine rc_X9_45 X hW x5 (3 : Int32) ⟨⟨rfl, rfl⟩, Nat.le_of_ble_eq_true rfl, Nat.le_of_ble_eq_true rfl⟩ hl.1 (Nat.le_of_ble_eq_true rfl) dX9_sorts_99 ⟨Nat.zero_le _, Nat.zero_le _⟩ (fun H locs hW => ?_)
      obtain ⟨i102, h⟩ := lb_chk_in h
      refine lb_ild X hW (show lb_ar 54 = 60 + 1 from rfl) i102 dX9_sorts_102 ?_
      refine lv_bipush (v := 6) hx hb dX9_sorts_103 rfl ?_
      refine lv_icmp_ge (tgt := 124) hx hb dX9_sorts_105 (by decide) (fun c105 => ?_) (fun c105 => ?_)
      · have h := (if_pos c105).symm.trans h
        refine lv_iconst (v := 0) hx hb dX9_sorts_124 rfl ?_
        refine lv_ior hx hb dX9_sorts_125 ?_
        refine lv_topi (fun v126 e126 => ?_)
        have h := lb_letI e126 h
        refine lv_istore (lv' := [(4, .int v126), (0, .ref (lb_ad G 53)), (1, .int x1), (2, .int x2), (3, .int x3), (5, .int x5)]) hx hb dX9_sorts_126 hl (by decide) rfl (fun ls hl => ?_)
        refine lv_iinc (v := (x5 + 1)) (lv' := [(5, .int (x5 + 1)), (4, .int v126), (0, .ref (lb_ad G 53)), (1, .int x1), (2, .int x2), (3, .int x3)]) hx hb dX9_sorts_128 hl (k := 5) rfl rfl (by decide) rfl (fun ls hl => ?_)
        refine lv_goto (tgt := 79) hx hb dX9_sorts_131 (by decide) ?_
        exact ih x1 x2 x3 v126 (x5 + 1) σ _ _ _ h hW (lv_sub hl [2, 3, 4, 5, 1, 0] rfl)
      · have h := (if_neg c105).symm.trans h
        refine lv_iconst (v := 1) hx hb dX9_sorts_108 rfl ?_
        refine lv_aload_n hx hb dX9_sorts_109 rfl (lv_at hl 0 rfl) ?_
        refine rg_X9_9 X hW dX9_sorts_110 ?_
        refine lv_iload hx hb dX9_sorts_113 (lv_at hl 5 rfl) ?_
        refine lv_iconst (v := 3) hx hb dX9_sorts_115 rfl ?_
        refine rc_X9_45 X hW x5 (3 : Int32) ⟨⟨rfl, rfl⟩, Nat.le_of_ble_eq_true rfl, Nat.le_of_ble_eq_true rfl⟩ hl.1 (Nat.le_of_ble_eq_true rfl) dX9_sorts_116 ⟨Nat.zero_le _, Nat.zero_le _⟩ (fun H locs hW => ?_)
        obtain ⟨i119, h⟩ := lb_chk_in h
        refine lb_ild X hW (show lb_ar 54 = 60 + 1 from rfl) i119 dX9_sorts_119 ?_
        refine lv_ishl hx hb dX9_sorts_120 ?_
        refine lv_goto (tgt := 125) hx hb dX9_sorts_121 (by decide) ?_
        refine lv_ior hx hb dX9_sorts_125 ?_
        refine lv_topi (fun v126 e126 => ?_)
        have h := lb_letI e126 h
        refine lv_istore (lv' := [(4, .int v126), (0, .ref (lb_ad G 53)), (1, .int x1), (2, .int x2), (3, .int x3), (5, .int x5)]) hx hb dX9_sorts_126 hl (by decide) rfl (fun ls hl => ?_)
        refine lv_iinc (v := (x5 + 1)) (lv' := [(5, .int (x5 + 1)), (4, .int v126), (0, .ref (lb_ad G 53)), (1, .int x1), (2, .int x2), (3, .int x3)]) hx hb dX9_sorts_128 hl (k := 5) rfl rfl (by decide) rfl (fun ls hl => ?_)
        refine lv_goto (tgt := 79) hx hb dX9_sorts_131 (by decide) ?_
        exact ih x1 x2 x3 v126 (x5 + 1) σ _ _ _ h hW (lv_sub hl [2, 3, 4, 5, 1, 0] rfl)
def f_X9_sorts_51 (kc26 : Int32 → Int32 → Int32 → Int32 → Int32 → lb_Mem → Option (Int32 × lb_Mem)) (x1 : Int32) (x3 : Int32) (x4 : Int32) (x5 : Int32) (σ : lb_Mem) (y0 : Int32) (y1 : Int32) : Option (Int32 × lb_Mem) := lb_let ((y0 ||| y1)) (fun v52 : Int32 => (f_X9_spoonsOf σ x5).bind (fun q56 => (f_X9_spoonsOf σ x3).bind (fun q61 => if q56 ≤ q61 then kc26 x1 v52 x3 x4 (x5 + 1) σ else kc26 x1 v52 x5 x4 (x5 + 1) σ)))
set_option maxRecDepth 20000 in
set_option maxHeartbeats 4000000 in
theorem w_X9_sorts_51 {p : Program} {l : Launch} {e : Env} {s : State} {m : MethodId} {args : Array Value} {below : List Frame} {meth : Method} {c : Code} {G : lb_G} {qr : (Int32 × lb_Mem)} (X : lb_C G p s m args meth c cX9_sorts 6 RX9 (some .int)) {kc26 : Int32 → Int32 → Int32 → Int32 → Int32 → lb_Mem → Option (Int32 × lb_Mem)} (hc26 : ∀ (x1 : Int32) (x2 : Int32) (x3 : Int32) (x4 : Int32) (x5 : Int32) (σ : lb_Mem) (H : Heap) (locs : List Loc) (ls : Array Slot), kc26 x1 x2 x3 x4 x5 σ = some qr → lb_W G s σ H locs → lv_has ls 6 [(0, .ref (lb_ad G 53)), (1, .int x1), (2, .int x2), (3, .int x3), (4, .int x4), (5, .int x5)] → W p l e rmX9_sorts s m args below meth c H locs 0 0 (MQ below (lb_QI G qr.1 qr.2) args s 0 0 (lb_A G)) (F0 m 26 ls [])) : ∀ (x1 : Int32) (x3 : Int32) (x4 : Int32) (x5 : Int32) (σ : lb_Mem) (y0 : Int32) (y1 : Int32) (H : Heap) (locs : List Loc) (ls : Array Slot), f_X9_sorts_51 kc26 x1 x3 x4 x5 σ y0 y1 = some qr → lb_W G s σ H locs → lv_has ls 6 [(0, .ref (lb_ad G 53)), (1, .int x1), (3, .int x3), (4, .int x4), (5, .int x5)] → W p l e rmX9_sorts s m args below meth c H locs 0 0 (MQ below (lb_QI G qr.1 qr.2) args s 0 0 (lb_A G)) (F0 m 51 ls [.int y1, .int y0]) := by
  have hx := X.1
  have hb := X.2.1
  intro x1 x3 x4 x5 σ y0 y1 H locs ls h hW hl
  have h : (lb_let ((y0 ||| y1)) (fun v52 : Int32 => (f_X9_spoonsOf σ x5).bind (fun q56 => (f_X9_spoonsOf σ x3).bind (fun q61 => if q56 ≤ q61 then kc26 x1 v52 x3 x4 (x5 + 1) σ else kc26 x1 v52 x5 x4 (x5 + 1) σ)))) = some qr := h
  refine lv_ior hx hb dX9_sorts_51 ?_
  refine lv_topi (fun v52 e52 => ?_)
  have h := lb_letI e52 h
  refine lv_istore_n (lv' := [(2, .int v52), (0, .ref (lb_ad G 53)), (1, .int x1), (3, .int x3), (4, .int x4), (5, .int x5)]) hx hb dX9_sorts_52 rfl hl (by decide) rfl (fun ls hl => ?_)
  refine lv_aload_n hx hb dX9_sorts_53 rfl (lv_at hl 1 rfl) ?_
  refine lv_iload hx hb dX9_sorts_54 (lv_at hl 5 rfl) ?_
  obtain ⟨q56, e56, h⟩ := lb_bind h
  refine rc_X9_161 X hW e56 ⟨⟨rfl, rfl⟩, Nat.le_of_ble_eq_true rfl, Nat.le_of_ble_eq_true rfl⟩ hl.1 (Nat.le_of_ble_eq_true rfl) dX9_sorts_56 ⟨Nat.zero_le _, Nat.zero_le _⟩ (fun H locs hW => ?_)
  refine lv_aload_n hx hb dX9_sorts_59 rfl (lv_at hl 1 rfl) ?_
  refine lv_iload_n hx hb dX9_sorts_60 rfl (lv_at hl 3 rfl) ?_
  obtain ⟨q61, e61, h⟩ := lb_bind h
  refine rc_X9_161 X hW e61 ⟨⟨rfl, rfl⟩, Nat.le_of_ble_eq_true rfl, Nat.le_of_ble_eq_true rfl⟩ hl.1 (Nat.le_of_ble_eq_true rfl) dX9_sorts_61 ⟨Nat.zero_le _, Nat.zero_le _⟩ (fun H locs hW => ?_)
  refine lv_icmp_le (tgt := 70) hx hb dX9_sorts_64 (by decide) (fun c64 => ?_) (fun c64 => ?_)
  · have h := (if_pos c64).symm.trans h
    refine lv_iinc (v := (x5 + 1)) (lv' := [(5, .int (x5 + 1)), (2, .int v52), (0, .ref (lb_ad G 53)), (1, .int x1), (3, .int x3), (4, .int x4)]) hx hb dX9_sorts_70 hl (k := 5) rfl rfl (by decide) rfl (fun ls hl => ?_)
    refine lv_goto (tgt := 26) hx hb dX9_sorts_73 (by decide) ?_
    exact hc26 x1 v52 x3 x4 (x5 + 1) σ _ _ _ h hW (lv_sub hl [2, 3, 1, 4, 5, 0] rfl)
  · have h := (if_neg c64).symm.trans h
    refine lv_iload hx hb dX9_sorts_67 (lv_at hl 5 rfl) ?_
    refine lv_istore_n (lv' := [(3, .int x5), (2, .int v52), (0, .ref (lb_ad G 53)), (1, .int x1), (4, .int x4), (5, .int x5)]) hx hb dX9_sorts_69 rfl hl (by decide) rfl (fun ls hl => ?_)
    refine lv_iinc (v := (x5 + 1)) (lv' := [(5, .int (x5 + 1)), (3, .int x5), (2, .int v52), (0, .ref (lb_ad G 53)), (1, .int x1), (4, .int x4)]) hx hb dX9_sorts_70 hl (k := 5) rfl rfl (by decide) rfl (fun ls hl => ?_)
    refine lv_goto (tgt := 26) hx hb dX9_sorts_73 (by decide) ?_
    exact hc26 x1 v52 x5 x4 (x5 + 1) σ _ _ _ h hW (lv_sub hl [3, 4, 2, 1, 5, 0] rfl)
def f_X9_sorts_26 : Nat → Int32 → Int32 → Int32 → Int32 → Int32 → lb_Mem → Option (Int32 × lb_Mem)
  | 0, _, _, _, _, _, _ => none
  | n + 1, x1, x2, x3, x4, x5, σ => if (6 : Int32) ≤ x5 then f_X9_sorts_79 lb_N x1 x2 x3 x4 (0 : Int32) σ else (f_X9_spoonsOf σ x5).bind (fun q37 => if q37 ≤ 0 then f_X9_sorts_51 (fun (x1 : Int32) (x2 : Int32) (x3 : Int32) (x4 : Int32) (x5 : Int32) (σ : lb_Mem) => f_X9_sorts_26 n x1 x2 x3 x4 x5 σ) x1 x3 x4 x5 σ x2 (0 : Int32) else f_X9_sorts_51 (fun (x1 : Int32) (x2 : Int32) (x3 : Int32) (x4 : Int32) (x5 : Int32) (σ : lb_Mem) => f_X9_sorts_26 n x1 x2 x3 x4 x5 σ) x1 x3 x4 x5 σ x2 ((1 : Int32) <<< (x5 &&& 31)))
set_option maxRecDepth 20000 in
set_option maxHeartbeats 4000000 in
theorem w_X9_sorts_26 {p : Program} {l : Launch} {e : Env} {s : State} {m : MethodId} {args : Array Value} {below : List Frame} {meth : Method} {c : Code} {G : lb_G} {qr : (Int32 × lb_Mem)} (X : lb_C G p s m args meth c cX9_sorts 6 RX9 (some .int)) : ∀ (n : Nat) (x1 : Int32) (x2 : Int32) (x3 : Int32) (x4 : Int32) (x5 : Int32) (σ : lb_Mem) (H : Heap) (locs : List Loc) (ls : Array Slot), f_X9_sorts_26 n x1 x2 x3 x4 x5 σ = some qr → lb_W G s σ H locs → lv_has ls 6 [(0, .ref (lb_ad G 53)), (1, .int x1), (2, .int x2), (3, .int x3), (4, .int x4), (5, .int x5)] → W p l e rmX9_sorts s m args below meth c H locs 0 0 (MQ below (lb_QI G qr.1 qr.2) args s 0 0 (lb_A G)) (F0 m 26 ls []) := by
  have hx := X.1
  have hb := X.2.1
  intro n
  induction n with
  | zero => intro x1 x2 x3 x4 x5 σ H locs ls h hW hl; exact absurd h (fun z => by cases z)
  | succ n ih =>
    intro x1 x2 x3 x4 x5 σ H locs ls h hW hl
    have h : (if (6 : Int32) ≤ x5 then f_X9_sorts_79 lb_N x1 x2 x3 x4 (0 : Int32) σ else (f_X9_spoonsOf σ x5).bind (fun q37 => if q37 ≤ 0 then f_X9_sorts_51 (fun (x1 : Int32) (x2 : Int32) (x3 : Int32) (x4 : Int32) (x5 : Int32) (σ : lb_Mem) => f_X9_sorts_26 n x1 x2 x3 x4 x5 σ) x1 x3 x4 x5 σ x2 (0 : Int32) else f_X9_sorts_51 (fun (x1 : Int32) (x2 : Int32) (x3 : Int32) (x4 : Int32) (x5 : Int32) (σ : lb_Mem) => f_X9_sorts_26 n x1 x2 x3 x4 x5 σ) x1 x3 x4 x5 σ x2 ((1 : Int32) <<< (x5 &&& 31)))) = some qr := h
    refine lv_iload hx hb dX9_sorts_26 (lv_at hl 5 rfl) ?_
    refine lv_bipush (v := 6) hx hb dX9_sorts_28 rfl ?_
    refine lv_icmp_ge (tgt := 76) hx hb dX9_sorts_30 (by decide) (fun c30 => ?_) (fun c30 => ?_)
    · have h := (if_pos c30).symm.trans h
      refine lv_iconst (v := 0) hx hb dX9_sorts_76 rfl ?_
      refine lv_istore (lv' := [(5, .int (0 : Int32)), (0, .ref (lb_ad G 53)), (1, .int x1), (2, .int x2), (3, .int x3), (4, .int x4)]) hx hb dX9_sorts_77 hl (by decide) rfl (fun ls hl => ?_)
      exact w_X9_sorts_79 X lb_N x1 x2 x3 x4 (0 : Int32) σ _ _ _ h hW (lv_sub hl [1, 2, 3, 4, 5, 0] rfl)
    · have h := (if_neg c30).symm.trans h
      refine lv_iload_n hx hb dX9_sorts_33 rfl (lv_at hl 2 rfl) ?_
      refine lv_aload_n hx hb dX9_sorts_34 rfl (lv_at hl 0 rfl) ?_
      refine lv_iload hx hb dX9_sorts_35 (lv_at hl 5 rfl) ?_
      obtain ⟨q37, e37, h⟩ := lb_bind h
      refine rc_X9_161 X hW e37 ⟨⟨rfl, rfl⟩, Nat.le_of_ble_eq_true rfl, Nat.le_of_ble_eq_true rfl⟩ hl.1 (Nat.le_of_ble_eq_true rfl) dX9_sorts_37 ⟨Nat.zero_le _, Nat.zero_le _⟩ (fun H locs hW => ?_)
      refine lv_if_le (tgt := 50) hx hb dX9_sorts_40 (by decide) (fun c40 => ?_) (fun c40 => ?_)
      · have h := (if_pos c40).symm.trans h
        refine lv_iconst (v := 0) hx hb dX9_sorts_50 rfl ?_
        exact w_X9_sorts_51 X ih x1 x3 x4 x5 σ x2 (0 : Int32) _ _ _ h hW (lv_sub hl [0, 1, 3, 4, 5] rfl)
      · have h := (if_neg c40).symm.trans h
        refine lv_iconst (v := 1) hx hb dX9_sorts_43 rfl ?_
        refine lv_iload hx hb dX9_sorts_44 (lv_at hl 5 rfl) ?_
        refine lv_ishl hx hb dX9_sorts_46 ?_
        refine lv_goto (tgt := 51) hx hb dX9_sorts_47 (by decide) ?_
        exact w_X9_sorts_51 X ih x1 x3 x4 x5 σ x2 ((1 : Int32) <<< (x5 &&& 31)) _ _ _ h hW (lv_sub hl [0, 1, 3, 4, 5] rfl)
def f_X9_sorts (x1 : Int32) (σ : lb_Mem) : Option (Int32 × lb_Mem) := if (f_X9_isIn x1 (0 : Int32) (2 : Int32)) = 0 then (f_X9_no (-2 : Int32) σ).bind (fun q12 => some (q12.1, q12.2)) else f_X9_sorts_26 lb_N x1 (0 : Int32) (0 : Int32) (0 : Int32) (0 : Int32) σ
set_option maxRecDepth 20000 in
set_option maxHeartbeats 4000000 in
theorem m_X9_sorts (l : Launch) (G : lb_G) (σ : lb_Mem) (x1 : Int32) (qr : (Int32 × lb_Mem)) (h : f_X9_sorts x1 σ = some qr) : lb_M l yX9_sorts cX9_sorts 6 (some .int) rmX9_sorts [.ref (lb_ad G 53), .int x1] G σ (lb_QI G qr.1 qr.2) := by
  refine lb_start RX9 (by decide +kernel) rfl (Nat.le_of_ble_eq_true rfl) (fun p e s m below meth c X hW ls hl => ?_)
  have hx := X.1
  have hb := X.2.1
  have hl : lv_has ls 6 [(0, .ref (lb_ad G 53)), (1, .int x1)] := hl
  have h : (if (f_X9_isIn x1 (0 : Int32) (2 : Int32)) = 0 then (f_X9_no (-2 : Int32) σ).bind (fun q12 => some (q12.1, q12.2)) else f_X9_sorts_26 lb_N x1 (0 : Int32) (0 : Int32) (0 : Int32) (0 : Int32) σ) = some qr := h
  skip
  refine lv_iload_n hx hb dX9_sorts_0 rfl (lv_at hl 1 rfl) ?_
  refine lv_iconst (v := 0) hx hb dX9_sorts_1 rfl ?_
  refine lv_iconst (v := 2) hx hb dX9_sorts_2 rfl ?_
  refine rc_X9_41 X hW x1 (0 : Int32) (2 : Int32) ⟨⟨rfl, rfl⟩, Nat.le_of_ble_eq_true rfl, Nat.le_of_ble_eq_true rfl⟩ hl.1 (Nat.le_of_ble_eq_true rfl) dX9_sorts_3 ⟨Nat.zero_le _, Nat.zero_le _⟩ (fun H locs hW => ?_)
  refine lv_if_ne (tgt := 16) hx hb dX9_sorts_6 (by decide) (fun c6 => ?_) (fun c6 => ?_)
  · have h := (if_neg c6).symm.trans h
    refine lv_iconst (v := 0) hx hb dX9_sorts_16 rfl ?_
    refine lv_istore_n (lv' := [(2, .int (0 : Int32)), (0, .ref (lb_ad G 53)), (1, .int x1)]) hx hb dX9_sorts_17 rfl hl (by decide) rfl (fun ls hl => ?_)
    refine lv_iconst (v := 0) hx hb dX9_sorts_18 rfl ?_
    refine lv_istore_n (lv' := [(3, .int (0 : Int32)), (2, .int (0 : Int32)), (0, .ref (lb_ad G 53)), (1, .int x1)]) hx hb dX9_sorts_19 rfl hl (by decide) rfl (fun ls hl => ?_)
    refine lv_iconst (v := 0) hx hb dX9_sorts_20 rfl ?_
    refine lv_istore (lv' := [(4, .int (0 : Int32)), (3, .int (0 : Int32)), (2, .int (0 : Int32)), (0, .ref (lb_ad G 53)), (1, .int x1)]) hx hb dX9_sorts_21 hl (by decide) rfl (fun ls hl => ?_)
    refine lv_iconst (v := 0) hx hb dX9_sorts_23 rfl ?_
    refine lv_istore (lv' := [(5, .int (0 : Int32)), (4, .int (0 : Int32)), (3, .int (0 : Int32)), (2, .int (0 : Int32)), (0, .ref (lb_ad G 53)), (1, .int x1)]) hx hb dX9_sorts_24 hl (by decide) rfl (fun ls hl => ?_)
    exact w_X9_sorts_26 X lb_N x1 (0 : Int32) (0 : Int32) (0 : Int32) (0 : Int32) σ _ _ _ h hW (lv_sub hl [4, 5, 3, 2, 1, 0] rfl)
  · have h := (if_pos c6).symm.trans h
    refine lv_aload_n hx hb dX9_sorts_9 rfl (lv_at hl 0 rfl) ?_
    refine lv_bipush (v := -2) hx hb dX9_sorts_10 rfl ?_
    obtain ⟨q12, e12, h⟩ := lb_bind h
    refine rc_X9_35 X hW e12 ⟨⟨rfl, rfl⟩, Nat.le_of_ble_eq_true rfl, Nat.le_of_ble_eq_true rfl⟩ hl.1 (Nat.le_of_ble_eq_true rfl) dX9_sorts_12 ⟨Nat.zero_le _, Nat.zero_le _⟩ (fun H locs hW => ?_)
    obtain rfl := Option.some.inj h
    exact lb_iret X hW dX9_sorts_15
abbrev rmX9_isNobodyGraceless : Room := { frames := 4, cells := 0, slots := 0, locals := 89 }
def f_X9_isNobodyGraceless_9 (kc2 : Int32 → Int32 → lb_Mem → Option (Int32 × lb_Mem)) : Nat → Int32 → Int32 → Int32 → lb_Mem → Option (Int32 × lb_Mem)
  | 0, _, _, _, _ => none
  | n + 1, x1, x2, x3, σ => if (σ 55 (1 : Int32).toNatClampNeg) ≤ x3 then (f_X9_year 55 σ).bind (fun s44 => kc2 x1 (x2 + 1) s44) else lb_chk (lb_ix (f_X9_ofP x3 (1 : Int32)) 61) (if (σ 55 (f_X9_ofP x3 (1 : Int32)).toNatClampNeg) = 0 then some ((0 : Int32), σ) else f_X9_isNobodyGraceless_9 kc2 n x1 x2 (x3 + 1) σ)
set_option maxRecDepth 20000 in
set_option maxHeartbeats 4000000 in
theorem w_X9_isNobodyGraceless_9 {p : Program} {l : Launch} {e : Env} {s : State} {m : MethodId} {args : Array Value} {below : List Frame} {meth : Method} {c : Code} {G : lb_G} {qr : (Int32 × lb_Mem)} (X : lb_C G p s m args meth c cX9_isNobodyGraceless 4 RX9 (some .boolean)) {kc2 : Int32 → Int32 → lb_Mem → Option (Int32 × lb_Mem)} (hc2 : ∀ (x1 : Int32) (x2 : Int32) (σ : lb_Mem) (H : Heap) (locs : List Loc) (ls : Array Slot), kc2 x1 x2 σ = some qr → lb_W G s σ H locs → lv_has ls 4 [(0, .ref (lb_ad G 53)), (1, .int x1), (2, .int x2)] → W p l e rmX9_isNobodyGraceless s m args below meth c H locs 0 0 (MQ below (lb_QI G qr.1 qr.2) args s 0 0 (lb_A G)) (F0 m 2 ls [])) : ∀ (n : Nat) (x1 : Int32) (x2 : Int32) (x3 : Int32) (σ : lb_Mem) (H : Heap) (locs : List Loc) (ls : Array Slot), f_X9_isNobodyGraceless_9 kc2 n x1 x2 x3 σ = some qr → lb_W G s σ H locs → lv_has ls 4 [(0, .ref (lb_ad G 53)), (1, .int x1), (2, .int x2), (3, .int x3)] → W p l e rmX9_isNobodyGraceless s m args below meth c H locs 0 0 (MQ below (lb_QI G qr.1 qr.2) args s 0 0 (lb_A G)) (F0 m 9 ls []) := by
  have hx := X.1
  have hb := X.2.1
  intro n
  induction n with
  | zero => intro x1 x2 x3 σ H locs ls h hW hl; exact absurd h (fun z => by cases z)
  | succ n ih =>
    intro x1 x2 x3 σ H locs ls h hW hl
    have h : (if (σ 55 (1 : Int32).toNatClampNeg) ≤ x3 then (f_X9_year 55 σ).bind (fun s44 => kc2 x1 (x2 + 1) s44) else lb_chk (lb_ix (f_X9_ofP x3 (1 : Int32)) 61) (if (σ 55 (f_X9_ofP x3 (1 : Int32)).toNatClampNeg) = 0 then some ((0 : Int32), σ) else f_X9_isNobodyGraceless_9 kc2 n x1 x2 (x3 + 1) σ)) = some qr := h
    refine lv_iload_n hx hb dX9_isNobodyGraceless_9 rfl (lv_at hl 3 rfl) ?_
    refine lv_aload_n hx hb dX9_isNobodyGraceless_10 rfl (lv_at hl 0 rfl) ?_
    refine rg_X9_13 X hW dX9_isNobodyGraceless_11 ?_
    refine lv_iconst (v := 1) hx hb dX9_isNobodyGraceless_14 rfl ?_
    refine lb_ild X hW (show lb_ar 55 = 60 + 1 from rfl) (lb_inC rfl) dX9_isNobodyGraceless_15 ?_
    refine lv_icmp_ge (tgt := 40) hx hb dX9_isNobodyGraceless_16 (by decide) (fun c16 => ?_) (fun c16 => ?_)
    · have h := (if_pos c16).symm.trans h
      refine lv_aload_n hx hb dX9_isNobodyGraceless_40 rfl (lv_at hl 0 rfl) ?_
      refine rg_X9_13 X hW dX9_isNobodyGraceless_41 ?_
      obtain ⟨s44, e44, h⟩ := lb_bind h
      refine rc_X9_69 X hW (show lb_ar 55 = 60 + 1 from rfl) e44 ⟨⟨rfl, rfl⟩, Nat.le_of_ble_eq_true rfl, Nat.le_of_ble_eq_true rfl⟩ hl.1 (Nat.le_of_ble_eq_true rfl) dX9_isNobodyGraceless_44 ⟨Nat.zero_le _, Nat.zero_le _⟩ (fun H locs hW => ?_)
      refine lv_iinc (v := (x2 + 1)) (lv' := [(2, .int (x2 + 1)), (0, .ref (lb_ad G 53)), (1, .int x1), (3, .int x3)]) hx hb dX9_isNobodyGraceless_47 hl (k := 2) rfl rfl (by decide) rfl (fun ls hl => ?_)
      refine lv_goto (tgt := 2) hx hb dX9_isNobodyGraceless_50 (by decide) ?_
      exact hc2 x1 (x2 + 1) s44 _ _ _ h hW (lv_sub hl [1, 2, 0] rfl)
    · have h := (if_neg c16).symm.trans h
      refine lv_aload_n hx hb dX9_isNobodyGraceless_19 rfl (lv_at hl 0 rfl) ?_
      refine rg_X9_13 X hW dX9_isNobodyGraceless_20 ?_
      refine lv_iload_n hx hb dX9_isNobodyGraceless_23 rfl (lv_at hl 3 rfl) ?_
      refine lv_iconst (v := 1) hx hb dX9_isNobodyGraceless_24 rfl ?_
      refine rc_X9_52 X hW x3 (1 : Int32) ⟨⟨rfl, rfl⟩, Nat.le_of_ble_eq_true rfl, Nat.le_of_ble_eq_true rfl⟩ hl.1 (Nat.le_of_ble_eq_true rfl) dX9_isNobodyGraceless_25 ⟨Nat.zero_le _, Nat.zero_le _⟩ (fun H locs hW => ?_)
      obtain ⟨i28, h⟩ := lb_chk_in h
      refine lb_ild X hW (show lb_ar 55 = 60 + 1 from rfl) i28 dX9_isNobodyGraceless_28 ?_
      refine lv_if_ne (tgt := 34) hx hb dX9_isNobodyGraceless_29 (by decide) (fun c29 => ?_) (fun c29 => ?_)
      · have h := (if_neg c29).symm.trans h
        refine lv_iinc (v := (x3 + 1)) (lv' := [(3, .int (x3 + 1)), (0, .ref (lb_ad G 53)), (1, .int x1), (2, .int x2)]) hx hb dX9_isNobodyGraceless_34 hl (k := 3) rfl rfl (by decide) rfl (fun ls hl => ?_)
        refine lv_goto (tgt := 9) hx hb dX9_isNobodyGraceless_37 (by decide) ?_
        exact ih x1 x2 (x3 + 1) σ _ _ _ h hW (lv_sub hl [1, 2, 3, 0] rfl)
      · have h := (if_pos c29).symm.trans h
        refine lv_iconst (v := 0) hx hb dX9_isNobodyGraceless_32 rfl ?_
        obtain rfl := Option.some.inj h
        exact lb_zret X hW (Or.inl rfl) dX9_isNobodyGraceless_33
def f_X9_isNobodyGraceless_2 : Nat → Int32 → Int32 → lb_Mem → Option (Int32 × lb_Mem)
  | 0, _, _, _ => none
  | n + 1, x1, x2, σ => if x1 < x2 then some ((1 : Int32), σ) else f_X9_isNobodyGraceless_9 (fun (x1 : Int32) (x2 : Int32) (σ : lb_Mem) => f_X9_isNobodyGraceless_2 n x1 x2 σ) lb_N x1 x2 (0 : Int32) σ
set_option maxRecDepth 20000 in
set_option maxHeartbeats 4000000 in
theorem w_X9_isNobodyGraceless_2 {p : Program} {l : Launch} {e : Env} {s : State} {m : MethodId} {args : Array Value} {below : List Frame} {meth : Method} {c : Code} {G : lb_G} {qr : (Int32 × lb_Mem)} (X : lb_C G p s m args meth c cX9_isNobodyGraceless 4 RX9 (some .boolean)) : ∀ (n : Nat) (x1 : Int32) (x2 : Int32) (σ : lb_Mem) (H : Heap) (locs : List Loc) (ls : Array Slot), f_X9_isNobodyGraceless_2 n x1 x2 σ = some qr → lb_W G s σ H locs → lv_has ls 4 [(0, .ref (lb_ad G 53)), (1, .int x1), (2, .int x2)] → W p l e rmX9_isNobodyGraceless s m args below meth c H locs 0 0 (MQ below (lb_QI G qr.1 qr.2) args s 0 0 (lb_A G)) (F0 m 2 ls []) := by
  have hx := X.1
  have hb := X.2.1
  intro n
  induction n with
  | zero => intro x1 x2 σ H locs ls h hW hl; exact absurd h (fun z => by cases z)
  | succ n ih =>
    intro x1 x2 σ H locs ls h hW hl
    have h : (if x1 < x2 then some ((1 : Int32), σ) else f_X9_isNobodyGraceless_9 (fun (x1 : Int32) (x2 : Int32) (σ : lb_Mem) => f_X9_isNobodyGraceless_2 n x1 x2 σ) lb_N x1 x2 (0 : Int32) σ) = some qr := h
    refine lv_iload_n hx hb dX9_isNobodyGraceless_2 rfl (lv_at hl 2 rfl) ?_
    refine lv_iload_n hx hb dX9_isNobodyGraceless_3 rfl (lv_at hl 1 rfl) ?_
    refine lv_icmp_gt (tgt := 53) hx hb dX9_isNobodyGraceless_4 (by decide) (fun c4 => ?_) (fun c4 => ?_)
    · have h := (if_pos c4).symm.trans h
      refine lv_iconst (v := 1) hx hb dX9_isNobodyGraceless_53 rfl ?_
      obtain rfl := Option.some.inj h
      exact lb_zret X hW (Or.inr rfl) dX9_isNobodyGraceless_54
    · have h := (if_neg c4).symm.trans h
      refine lv_iconst (v := 0) hx hb dX9_isNobodyGraceless_7 rfl ?_
      refine lv_istore_n (lv' := [(3, .int (0 : Int32)), (0, .ref (lb_ad G 53)), (1, .int x1), (2, .int x2)]) hx hb dX9_isNobodyGraceless_8 rfl hl (by decide) rfl (fun ls hl => ?_)
      exact w_X9_isNobodyGraceless_9 X ih lb_N x1 x2 (0 : Int32) σ _ _ _ h hW (lv_sub hl [1, 2, 3, 0] rfl)
def f_X9_isNobodyGraceless (x1 : Int32) (σ : lb_Mem) : Option (Int32 × lb_Mem) := f_X9_isNobodyGraceless_2 lb_N x1 (0 : Int32) σ
set_option maxRecDepth 20000 in
set_option maxHeartbeats 4000000 in
theorem m_X9_isNobodyGraceless (l : Launch) (G : lb_G) (σ : lb_Mem) (x1 : Int32) (qr : (Int32 × lb_Mem)) (h : f_X9_isNobodyGraceless x1 σ = some qr) : lb_M l yX9_isNobodyGraceless cX9_isNobodyGraceless 4 (some .boolean) rmX9_isNobodyGraceless [.ref (lb_ad G 53), .int x1] G σ (lb_QI G qr.1 qr.2) := by
  refine lb_start RX9 (by decide +kernel) rfl (Nat.le_of_ble_eq_true rfl) (fun p e s m below meth c X hW ls hl => ?_)
  have hx := X.1
  have hb := X.2.1
  have hl : lv_has ls 4 [(0, .ref (lb_ad G 53)), (1, .int x1)] := hl
  have h : (f_X9_isNobodyGraceless_2 lb_N x1 (0 : Int32) σ) = some qr := h
  skip
  refine lv_iconst (v := 0) hx hb dX9_isNobodyGraceless_0 rfl ?_
  refine lv_istore_n (lv' := [(2, .int (0 : Int32)), (0, .ref (lb_ad G 53)), (1, .int x1)]) hx hb dX9_isNobodyGraceless_1 rfl hl (by decide) rfl (fun ls hl => ?_)
  exact w_X9_isNobodyGraceless_2 X lb_N x1 (0 : Int32) σ _ _ _ h hW (lv_sub hl [1, 2, 0] rfl)
theorem rc_X9_164 {p : Program} {l : Launch} {e : Env} {R : Room} {s : State} {m : MethodId} {args : Array Value} {below : List Frame} {meth : Method} {c : Code} {H : Heap} {locs : List Loc} {cells slots : Nat} {Q : State → Prop} {cc : ByteArray} {pc nL : Nat} {ls : Array Slot} {rest : List Value} {G : lb_G} {σ : lb_Mem} {ret : Option FieldType} (X : lb_C G p s m args meth c cc nL RX9 ret) (hW : lb_W G s σ H locs) {x0 : Int32} {qr : Int32} (h : f_X9_bits x0 = some qr) (hR : lb_room rmX9_bits R 3) (hls : ls.size = nL) (hrest : (rest.map fun v => v.category).sum ≤ 8) (d : decode cc pc = .ok (.invokestatic 164, 3)) (hcap : cells ≤ R.cells ∧ slots ≤ R.slots) (kk : ∀ (H1 : Heap) (locs1 : List Loc), lb_W G s σ H1 locs1 → W p l e R s m args below meth c H1 locs1 cells slots Q (F0 m (pc + 3) ls (.int qr :: rest))) : W p l e R s m args below meth c H locs cells slots Q (F0 m pc ls (.int x0 :: rest)) :=
  lb_goI hW (lb_runS (As := [.int x0]) X hW (m_X9_bits l G σ x0 qr h) (n := 1) ⟨qw_1041, qw_52, qw_1043, by decide +kernel⟩ hR qw_1042 rfl hls hrest d hcap) kk
theorem rc_X9_167 {p : Program} {l : Launch} {e : Env} {R : Room} {s : State} {m : MethodId} {args : Array Value} {below : List Frame} {meth : Method} {c : Code} {H : Heap} {locs : List Loc} {cells slots : Nat} {Q : State → Prop} {cc : ByteArray} {pc nL : Nat} {ls : Array Slot} {rest : List Value} {G : lb_G} {σ : lb_Mem} {ret : Option FieldType} (X : lb_C G p s m args meth c cc nL RX9 ret) (hW : lb_W G s σ H locs) (x0 : Int32) (x1 : Int32) (hR : lb_room rmX9_has R 2) (hls : ls.size = nL) (hrest : (rest.map fun v => v.category).sum ≤ 8) (d : decode cc pc = .ok (.invokestatic 167, 3)) (hcap : cells ≤ R.cells ∧ slots ≤ R.slots) (kk : ∀ (H1 : Heap) (locs1 : List Loc), lb_W G s σ H1 locs1 → W p l e R s m args below meth c H1 locs1 cells slots Q (F0 m (pc + 3) ls (.int (f_X9_has x0 x1) :: rest))) : W p l e R s m args below meth c H locs cells slots Q (F0 m pc ls (.int x1 :: .int x0 :: rest)) :=
  lb_goI hW (lb_runS (As := [.int x0, .int x1]) X hW (m_X9_has l G σ x0 x1 _ rfl) (n := 2) ⟨qw_1044, qw_52, qw_1046, by decide +kernel⟩ hR qw_1045 rfl hls hrest d hcap) kk
theorem rc_X9_170 {p : Program} {l : Launch} {e : Env} {R : Room} {s : State} {m : MethodId} {args : Array Value} {below : List Frame} {meth : Method} {c : Code} {H : Heap} {locs : List Loc} {cells slots : Nat} {Q : State → Prop} {cc : ByteArray} {pc nL : Nat} {ls : Array Slot} {rest : List Value} {G : lb_G} {σ : lb_Mem} {ret : Option FieldType} (X : lb_C G p s m args meth c cc nL RX9 ret) (hW : lb_W G s σ H locs) {x1 : Int32} {qr : (Int32 × lb_Mem)} (h : f_X9_isNobodyGraceless x1 σ = some qr) (hR : lb_room rmX9_isNobodyGraceless R 4) (hls : ls.size = nL) (hrest : (rest.map fun v => v.category).sum ≤ 8) (d : decode cc pc = .ok (.invokevirtual 170, 3)) (hcap : cells ≤ R.cells ∧ slots ≤ R.slots) (kk : ∀ (H1 : Heap) (locs1 : List Loc), lb_W G s qr.2 H1 locs1 → W p l e R s m args below meth c H1 locs1 cells slots Q (F0 m (pc + 3) ls (.int qr.1 :: rest))) : W p l e R s m args below meth c H locs cells slots Q (F0 m pc ls (.int x1 :: .ref (lb_ad G 53) :: rest)) :=
  lb_goI hW (lb_runV (As := [.int x1]) X hW (m_X9_isNobodyGraceless l G σ x1 qr h) (n := 1) ⟨qw_1047, qw_52, qw_1050, by decide +kernel⟩ hR qw_1049 qw_38 lb_is53 rfl hls hrest d hcap) kk
abbrev rmX9_fewest : Room := { frames := 5, cells := 0, slots := 0, locals := 112 }
def f_X9_fewest_70 (kc24 : Int32 → Int32 → Int32 → lb_Mem → Option (Int32 × lb_Mem)) : Nat → Int32 → Int32 → Int32 → Int32 → lb_Mem → Option (Int32 × lb_Mem)
  | 0, _, _, _, _, _ => none
  | n + 1, x1, x3, x4, x5, σ => if (σ 54 (0 : Int32).toNatClampNeg) ≤ x5 then (f_X9_isNobodyGraceless x1 σ).bind (fun q121 => if q121.1 = 0 then kc24 x1 x3 (x4 + 1) q121.2 else kc24 x1 x4 (x4 + 1) q121.2) else if (f_X9_has x4 x5) = 0 then f_X9_fewest_70 kc24 n x1 x3 x4 (x5 + 1) σ else lb_chk (lb_ix (f_X9_ofT x5 (2 : Int32)) 61) (lb_chk (lb_ix (f_X9_ofT x5 (3 : Int32)) 61) (lb_let (lb_sto σ 55 (f_X9_ofT x5 (3 : Int32)).toNatClampNeg (σ 54 (f_X9_ofT x5 (2 : Int32)).toNatClampNeg)) (fun s112 : lb_Mem => f_X9_fewest_70 kc24 n x1 x3 x4 (x5 + 1) s112)))
set_option maxRecDepth 20000 in
set_option maxHeartbeats 4000000 in
theorem w_X9_fewest_70 {p : Program} {l : Launch} {e : Env} {s : State} {m : MethodId} {args : Array Value} {below : List Frame} {meth : Method} {c : Code} {G : lb_G} {qr : (Int32 × lb_Mem)} (X : lb_C G p s m args meth c cX9_fewest 6 RX9 (some .int)) {kc24 : Int32 → Int32 → Int32 → lb_Mem → Option (Int32 × lb_Mem)} (hc24 : ∀ (x1 : Int32) (x3 : Int32) (x4 : Int32) (σ : lb_Mem) (H : Heap) (locs : List Loc) (ls : Array Slot), kc24 x1 x3 x4 σ = some qr → lb_W G s σ H locs → lv_has ls 6 [(0, .ref (lb_ad G 53)), (1, .int x1), (3, .int x3), (4, .int x4)] → W p l e rmX9_fewest s m args below meth c H locs 0 0 (MQ below (lb_QI G qr.1 qr.2) args s 0 0 (lb_A G)) (F0 m 24 ls [])) : ∀ (n : Nat) (x1 : Int32) (x3 : Int32) (x4 : Int32) (x5 : Int32) (σ : lb_Mem) (H : Heap) (locs : List Loc) (ls : Array Slot), f_X9_fewest_70 kc24 n x1 x3 x4 x5 σ = some qr → lb_W G s σ H locs → lv_has ls 6 [(0, .ref (lb_ad G 53)), (1, .int x1), (3, .int x3), (4, .int x4), (5, .int x5)] → W p l e rmX9_fewest s m args below meth c H locs 0 0 (MQ below (lb_QI G qr.1 qr.2) args s 0 0 (lb_A G)) (F0 m 70 ls []) := by
  have hx := X.1
  have hb := X.2.1
  intro n
  induction n with
  | zero => intro x1 x3 x4 x5 σ H locs ls h hW hl; exact absurd h (fun z => by cases z)
  | succ n ih =>
    intro x1 x3 x4 x5 σ H locs ls h hW hl
    have h : (if (σ 54 (0 : Int32).toNatClampNeg) ≤ x5 then (f_X9_isNobodyGraceless x1 σ).bind (fun q121 => if q121.1 = 0 then kc24 x1 x3 (x4 + 1) q121.2 else kc24 x1 x4 (x4 + 1) q121.2) else if (f_X9_has x4 x5) = 0 then f_X9_fewest_70 kc24 n x1 x3 x4 (x5 + 1) σ else lb_chk (lb_ix (f_X9_ofT x5 (2 : Int32)) 61) (lb_chk (lb_ix (f_X9_ofT x5 (3 : Int32)) 61) (lb_let (lb_sto σ 55 (f_X9_ofT x5 (3 : Int32)).toNatClampNeg (σ 54 (f_X9_ofT x5 (2 : Int32)).toNatClampNeg)) (fun s112 : lb_Mem => f_X9_fewest_70 kc24 n x1 x3 x4 (x5 + 1) s112)))) = some qr := h
    refine lv_iload hx hb dX9_fewest_70 (lv_at hl 4 rfl) ?_
    refine lv_aload_n hx hb dX9_fewest_72 rfl (lv_at hl 0 rfl) ?_
    refine rg_X9_9 X hW dX9_fewest_73 ?_
    refine lv_iconst (v := 0) hx hb dX9_fewest_76 rfl ?_
    refine lb_ild X hW (show lb_ar 54 = 60 + 1 from rfl) (lb_inC rfl) dX9_fewest_77 ?_
    refine lv_icmp_ge (tgt := 119) hx hb dX9_fewest_78 (by decide) (fun c78 => ?_) (fun c78 => ?_)
    · have h := (if_pos c78).symm.trans h
      refine lv_aload_n hx hb dX9_fewest_119 rfl (lv_at hl 0 rfl) ?_
      refine lv_iload_n hx hb dX9_fewest_120 rfl (lv_at hl 1 rfl) ?_
      obtain ⟨q121, e121, h⟩ := lb_bind h
      refine rc_X9_170 X hW e121 ⟨⟨rfl, rfl⟩, Nat.le_of_ble_eq_true rfl, Nat.le_of_ble_eq_true rfl⟩ hl.1 (Nat.le_of_ble_eq_true rfl) dX9_fewest_121 ⟨Nat.zero_le _, Nat.zero_le _⟩ (fun H locs hW => ?_)
      refine lv_if_eq (tgt := 130) hx hb dX9_fewest_124 (by decide) (fun c124 => ?_) (fun c124 => ?_)
      · have h := (if_pos c124).symm.trans h
        refine lv_iinc (v := (x4 + 1)) (lv' := [(4, .int (x4 + 1)), (0, .ref (lb_ad G 53)), (1, .int x1), (3, .int x3), (5, .int x5)]) hx hb dX9_fewest_130 hl (k := 3) rfl rfl (by decide) rfl (fun ls hl => ?_)
        refine lv_goto (tgt := 24) hx hb dX9_fewest_133 (by decide) ?_
        exact hc24 x1 x3 (x4 + 1) q121.2 _ _ _ h hW (lv_sub hl [1, 2, 3, 0] rfl)
      · have h := (if_neg c124).symm.trans h
        refine lv_iload hx hb dX9_fewest_127 (lv_at hl 3 rfl) ?_
        refine lv_istore_n (lv' := [(3, .int x4), (0, .ref (lb_ad G 53)), (1, .int x1), (4, .int x4), (5, .int x5)]) hx hb dX9_fewest_129 rfl hl (by decide) rfl (fun ls hl => ?_)
        refine lv_iinc (v := (x4 + 1)) (lv' := [(4, .int (x4 + 1)), (3, .int x4), (0, .ref (lb_ad G 53)), (1, .int x1), (5, .int x5)]) hx hb dX9_fewest_130 hl (k := 3) rfl rfl (by decide) rfl (fun ls hl => ?_)
        refine lv_goto (tgt := 24) hx hb dX9_fewest_133 (by decide) ?_
        exact hc24 x1 x4 (x4 + 1) q121.2 _ _ _ h hW (lv_sub hl [2, 3, 1, 0] rfl)
    · have h := (if_neg c78).symm.trans h
      refine lv_iload hx hb dX9_fewest_81 (lv_at hl 3 rfl) ?_
      refine lv_iload hx hb dX9_fewest_83 (lv_at hl 4 rfl) ?_
      refine rc_X9_167 X hW x4 x5 ⟨⟨rfl, rfl⟩, Nat.le_of_ble_eq_true rfl, Nat.le_of_ble_eq_true rfl⟩ hl.1 (Nat.le_of_ble_eq_true rfl) dX9_fewest_85 ⟨Nat.zero_le _, Nat.zero_le _⟩ (fun H locs hW => ?_)
      refine lv_if_eq (tgt := 113) hx hb dX9_fewest_88 (by decide) (fun c88 => ?_) (fun c88 => ?_)
      · have h := (if_pos c88).symm.trans h
        refine lv_iinc (v := (x5 + 1)) (lv' := [(5, .int (x5 + 1)), (0, .ref (lb_ad G 53)), (1, .int x1), (3, .int x3), (4, .int x4)]) hx hb dX9_fewest_113 hl (k := 4) rfl rfl (by decide) rfl (fun ls hl => ?_)
        refine lv_goto (tgt := 70) hx hb dX9_fewest_116 (by decide) ?_
        exact ih x1 x3 x4 (x5 + 1) σ _ _ _ h hW (lv_sub hl [1, 2, 3, 4, 0] rfl)
      · have h := (if_neg c88).symm.trans h
        refine lv_aload_n hx hb dX9_fewest_91 rfl (lv_at hl 0 rfl) ?_
        refine rg_X9_13 X hW dX9_fewest_92 ?_
        refine lv_iload hx hb dX9_fewest_95 (lv_at hl 4 rfl) ?_
        refine lv_iconst (v := 3) hx hb dX9_fewest_97 rfl ?_
        refine rc_X9_45 X hW x5 (3 : Int32) ⟨⟨rfl, rfl⟩, Nat.le_of_ble_eq_true rfl, Nat.le_of_ble_eq_true rfl⟩ hl.1 (Nat.le_of_ble_eq_true rfl) dX9_fewest_98 ⟨Nat.zero_le _, Nat.zero_le _⟩ (fun H locs hW => ?_)
        refine lv_aload_n hx hb dX9_fewest_101 rfl (lv_at hl 0 rfl) ?_
        refine rg_X9_9 X hW dX9_fewest_102 ?_
        refine lv_iload hx hb dX9_fewest_105 (lv_at hl 4 rfl) ?_
        refine lv_iconst (v := 2) hx hb dX9_fewest_107 rfl ?_
        refine rc_X9_45 X hW x5 (2 : Int32) ⟨⟨rfl, rfl⟩, Nat.le_of_ble_eq_true rfl, Nat.le_of_ble_eq_true rfl⟩ hl.1 (Nat.le_of_ble_eq_true rfl) dX9_fewest_108 ⟨Nat.zero_le _, Nat.zero_le _⟩ (fun H locs hW => ?_)
        obtain ⟨i111, h⟩ := lb_chk_in h
        refine lb_ild X hW (show lb_ar 54 = 60 + 1 from rfl) i111 dX9_fewest_111 ?_
        obtain ⟨i112, h⟩ := lb_chk_in h
        refine lb_ist X hW (show lb_ar 55 = 60 + 1 from rfl) i112 dX9_fewest_112 (fun H locs hW => ?_)
        obtain ⟨s112, e112⟩ : ∃ z, z = lb_sto σ 55 (f_X9_ofT x5 (3 : Int32)).toNatClampNeg (σ 54 (f_X9_ofT x5 (2 : Int32)).toNatClampNeg) := ⟨_, rfl⟩
        rw [← e112] at hW
        have h := lb_letI e112 h
        refine lv_iinc (v := (x5 + 1)) (lv' := [(5, .int (x5 + 1)), (0, .ref (lb_ad G 53)), (1, .int x1), (3, .int x3), (4, .int x4)]) hx hb dX9_fewest_113 hl (k := 4) rfl rfl (by decide) rfl (fun ls hl => ?_)
        refine lv_goto (tgt := 70) hx hb dX9_fewest_116 (by decide) ?_
        exact ih x1 x3 x4 (x5 + 1) s112 _ _ _ h hW (lv_sub hl [1, 2, 3, 4, 0] rfl)
def f_X9_fewest_56 (kc24 : Int32 → Int32 → Int32 → lb_Mem → Option (Int32 × lb_Mem)) (x1 : Int32) (x3 : Int32) (x4 : Int32) (σ : lb_Mem) : Option (Int32 × lb_Mem) := (f_X9_copies 54 55 σ).bind (fun s64 => f_X9_fewest_70 kc24 lb_N x1 x3 x4 (0 : Int32) s64)
set_option maxRecDepth 20000 in
set_option maxHeartbeats 4000000 in
theorem w_X9_fewest_56 {p : Program} {l : Launch} {e : Env} {s : State} {m : MethodId} {args : Array Value} {below : List Frame} {meth : Method} {c : Code} {G : lb_G} {qr : (Int32 × lb_Mem)} (X : lb_C G p s m args meth c cX9_fewest 6 RX9 (some .int)) {kc24 : Int32 → Int32 → Int32 → lb_Mem → Option (Int32 × lb_Mem)} (hc24 : ∀ (x1 : Int32) (x3 : Int32) (x4 : Int32) (σ : lb_Mem) (H : Heap) (locs : List Loc) (ls : Array Slot), kc24 x1 x3 x4 σ = some qr → lb_W G s σ H locs → lv_has ls 6 [(0, .ref (lb_ad G 53)), (1, .int x1), (3, .int x3), (4, .int x4)] → W p l e rmX9_fewest s m args below meth c H locs 0 0 (MQ below (lb_QI G qr.1 qr.2) args s 0 0 (lb_A G)) (F0 m 24 ls [])) : ∀ (x1 : Int32) (x3 : Int32) (x4 : Int32) (σ : lb_Mem) (H : Heap) (locs : List Loc) (ls : Array Slot), f_X9_fewest_56 kc24 x1 x3 x4 σ = some qr → lb_W G s σ H locs → lv_has ls 6 [(0, .ref (lb_ad G 53)), (1, .int x1), (3, .int x3), (4, .int x4)] → W p l e rmX9_fewest s m args below meth c H locs 0 0 (MQ below (lb_QI G qr.1 qr.2) args s 0 0 (lb_A G)) (F0 m 56 ls []) := by
  have hx := X.1
  have hb := X.2.1
  intro x1 x3 x4 σ H locs ls h hW hl
  have h : ((f_X9_copies 54 55 σ).bind (fun s64 => f_X9_fewest_70 kc24 lb_N x1 x3 x4 (0 : Int32) s64)) = some qr := h
  refine lv_aload_n hx hb dX9_fewest_56 rfl (lv_at hl 0 rfl) ?_
  refine rg_X9_9 X hW dX9_fewest_57 ?_
  refine lv_aload_n hx hb dX9_fewest_60 rfl (lv_at hl 0 rfl) ?_
  refine rg_X9_13 X hW dX9_fewest_61 ?_
  obtain ⟨s64, e64, h⟩ := lb_bind h
  refine rc_X9_112 X hW (show lb_ar 54 = 60 + 1 from rfl) (show lb_ar 55 = 60 + 1 from rfl) e64 ⟨⟨rfl, rfl⟩, Nat.le_of_ble_eq_true rfl, Nat.le_of_ble_eq_true rfl⟩ hl.1 (Nat.le_of_ble_eq_true rfl) dX9_fewest_64 ⟨Nat.zero_le _, Nat.zero_le _⟩ (fun H locs hW => ?_)
  refine lv_iconst (v := 0) hx hb dX9_fewest_67 rfl ?_
  refine lv_istore (lv' := [(5, .int (0 : Int32)), (0, .ref (lb_ad G 53)), (1, .int x1), (3, .int x3), (4, .int x4)]) hx hb dX9_fewest_68 hl (by decide) rfl (fun ls hl => ?_)
  exact w_X9_fewest_70 X hc24 lb_N x1 x3 x4 (0 : Int32) s64 _ _ _ h hW (lv_sub hl [1, 2, 3, 4, 0] rfl)
def f_X9_fewest_24 : Nat → Int32 → Int32 → Int32 → lb_Mem → Option (Int32 × lb_Mem)
  | 0, _, _, _, _ => none
  | n + 1, x1, x3, x4, σ => if ((1 : Int32) <<< ((σ 54 (0 : Int32).toNatClampNeg) &&& 31)) ≤ x4 then some (x3, σ) else if x3 < 0 then f_X9_fewest_56 (fun (x1 : Int32) (x3 : Int32) (x4 : Int32) (σ : lb_Mem) => f_X9_fewest_24 n x1 x3 x4 σ) x1 x3 x4 σ else (f_X9_bits x4).bind (fun q43 => (f_X9_bits x3).bind (fun q47 => if q43 < q47 then f_X9_fewest_56 (fun (x1 : Int32) (x3 : Int32) (x4 : Int32) (σ : lb_Mem) => f_X9_fewest_24 n x1 x3 x4 σ) x1 x3 x4 σ else f_X9_fewest_24 n x1 x3 (x4 + 1) σ))
set_option maxRecDepth 20000 in
set_option maxHeartbeats 4000000 in
theorem w_X9_fewest_24 {p : Program} {l : Launch} {e : Env} {s : State} {m : MethodId} {args : Array Value} {below : List Frame} {meth : Method} {c : Code} {G : lb_G} {qr : (Int32 × lb_Mem)} (X : lb_C G p s m args meth c cX9_fewest 6 RX9 (some .int)) : ∀ (n : Nat) (x1 : Int32) (x3 : Int32) (x4 : Int32) (σ : lb_Mem) (H : Heap) (locs : List Loc) (ls : Array Slot), f_X9_fewest_24 n x1 x3 x4 σ = some qr → lb_W G s σ H locs → lv_has ls 6 [(0, .ref (lb_ad G 53)), (1, .int x1), (3, .int x3), (4, .int x4)] → W p l e rmX9_fewest s m args below meth c H locs 0 0 (MQ below (lb_QI G qr.1 qr.2) args s 0 0 (lb_A G)) (F0 m 24 ls []) := by
  have hx := X.1
  have hb := X.2.1
  intro n
  induction n with
  | zero => intro x1 x3 x4 σ H locs ls h hW hl; exact absurd h (fun z => by cases z)
  | succ n ih =>
    intro x1 x3 x4 σ H locs ls h hW hl
    have h : (if ((1 : Int32) <<< ((σ 54 (0 : Int32).toNatClampNeg) &&& 31)) ≤ x4 then some (x3, σ) else if x3 < 0 then f_X9_fewest_56 (fun (x1 : Int32) (x3 : Int32) (x4 : Int32) (σ : lb_Mem) => f_X9_fewest_24 n x1 x3 x4 σ) x1 x3 x4 σ else (f_X9_bits x4).bind (fun q43 => (f_X9_bits x3).bind (fun q47 => if q43 < q47 then f_X9_fewest_56 (fun (x1 : Int32) (x3 : Int32) (x4 : Int32) (σ : lb_Mem) => f_X9_fewest_24 n x1 x3 x4 σ) x1 x3 x4 σ else f_X9_fewest_24 n x1 x3 (x4 + 1) σ))) = some qr := h
    refine lv_iload hx hb dX9_fewest_24 (lv_at hl 3 rfl) ?_
    refine lv_iconst (v := 1) hx hb dX9_fewest_26 rfl ?_
    refine lv_aload_n hx hb dX9_fewest_27 rfl (lv_at hl 0 rfl) ?_
    refine rg_X9_9 X hW dX9_fewest_28 ?_
    refine lv_iconst (v := 0) hx hb dX9_fewest_31 rfl ?_
    refine lb_ild X hW (show lb_ar 54 = 60 + 1 from rfl) (lb_inC rfl) dX9_fewest_32 ?_
    refine lv_ishl hx hb dX9_fewest_33 ?_
    refine lv_icmp_ge (tgt := 136) hx hb dX9_fewest_34 (by decide) (fun c34 => ?_) (fun c34 => ?_)
    · have h := (if_pos c34).symm.trans h
      refine lv_iload_n hx hb dX9_fewest_136 rfl (lv_at hl 2 rfl) ?_
      obtain rfl := Option.some.inj h
      exact lb_iret X hW dX9_fewest_137
    · have h := (if_neg c34).symm.trans h
      refine lv_iload_n hx hb dX9_fewest_37 rfl (lv_at hl 2 rfl) ?_
      refine lv_if_lt (tgt := 56) hx hb dX9_fewest_38 (by decide) (fun c38 => ?_) (fun c38 => ?_)
      · have h := (if_pos c38).symm.trans h
        exact w_X9_fewest_56 X ih x1 x3 x4 σ _ _ _ h hW (lv_sub hl [0, 1, 2, 3] rfl)
      · have h := (if_neg c38).symm.trans h
        refine lv_iload hx hb dX9_fewest_41 (lv_at hl 3 rfl) ?_
        obtain ⟨q43, e43, h⟩ := lb_bind h
        refine rc_X9_164 X hW e43 ⟨⟨rfl, rfl⟩, Nat.le_of_ble_eq_true rfl, Nat.le_of_ble_eq_true rfl⟩ hl.1 (Nat.le_of_ble_eq_true rfl) dX9_fewest_43 ⟨Nat.zero_le _, Nat.zero_le _⟩ (fun H locs hW => ?_)
        refine lv_iload_n hx hb dX9_fewest_46 rfl (lv_at hl 2 rfl) ?_
        obtain ⟨q47, e47, h⟩ := lb_bind h
        refine rc_X9_164 X hW e47 ⟨⟨rfl, rfl⟩, Nat.le_of_ble_eq_true rfl, Nat.le_of_ble_eq_true rfl⟩ hl.1 (Nat.le_of_ble_eq_true rfl) dX9_fewest_47 ⟨Nat.zero_le _, Nat.zero_le _⟩ (fun H locs hW => ?_)
        refine lv_icmp_lt (tgt := 56) hx hb dX9_fewest_50 (by decide) (fun c50 => ?_) (fun c50 => ?_)
        · have h := (if_pos c50).symm.trans h
          exact w_X9_fewest_56 X ih x1 x3 x4 σ _ _ _ h hW (lv_sub hl [0, 1, 2, 3] rfl)
        · have h := (if_neg c50).symm.trans h
          refine lv_goto (tgt := 130) hx hb dX9_fewest_53 (by decide) ?_
          refine lv_iinc (v := (x4 + 1)) (lv' := [(4, .int (x4 + 1)), (0, .ref (lb_ad G 53)), (1, .int x1), (3, .int x3)]) hx hb dX9_fewest_130 hl (k := 3) rfl rfl (by decide) rfl (fun ls hl => ?_)
          refine lv_goto (tgt := 24) hx hb dX9_fewest_133 (by decide) ?_
          exact ih x1 x3 (x4 + 1) σ _ _ _ h hW (lv_sub hl [1, 2, 3, 0] rfl)
def f_X9_fewest (x1 : Int32) (σ : lb_Mem) : Option (Int32 × lb_Mem) := lb_let ((f_X9_wrongBy x1 (0 : Int32) (20 : Int32))) (fun v7 : Int32 => if v7 = 0 then f_X9_fewest_24 lb_N x1 (-9 : Int32) (0 : Int32) σ else (f_X9_no v7 σ).bind (fun q14 => some (q14.1, q14.2)))
set_option maxRecDepth 20000 in
set_option maxHeartbeats 4000000 in
theorem m_X9_fewest (l : Launch) (G : lb_G) (σ : lb_Mem) (x1 : Int32) (qr : (Int32 × lb_Mem)) (h : f_X9_fewest x1 σ = some qr) : lb_M l yX9_fewest cX9_fewest 6 (some .int) rmX9_fewest [.ref (lb_ad G 53), .int x1] G σ (lb_QI G qr.1 qr.2) := by
  refine lb_start RX9 (by decide +kernel) rfl (Nat.le_of_ble_eq_true rfl) (fun p e s m below meth c X hW ls hl => ?_)
  have hx := X.1
  have hb := X.2.1
  have hl : lv_has ls 6 [(0, .ref (lb_ad G 53)), (1, .int x1)] := hl
  have h : (lb_let ((f_X9_wrongBy x1 (0 : Int32) (20 : Int32))) (fun v7 : Int32 => if v7 = 0 then f_X9_fewest_24 lb_N x1 (-9 : Int32) (0 : Int32) σ else (f_X9_no v7 σ).bind (fun q14 => some (q14.1, q14.2)))) = some qr := h
  skip
  refine lv_iload_n hx hb dX9_fewest_0 rfl (lv_at hl 1 rfl) ?_
  refine lv_iconst (v := 0) hx hb dX9_fewest_1 rfl ?_
  refine lv_bipush (v := 20) hx hb dX9_fewest_2 rfl ?_
  refine rc_X9_125 X hW x1 (0 : Int32) (20 : Int32) ⟨⟨rfl, rfl⟩, Nat.le_of_ble_eq_true rfl, Nat.le_of_ble_eq_true rfl⟩ hl.1 (Nat.le_of_ble_eq_true rfl) dX9_fewest_4 ⟨Nat.zero_le _, Nat.zero_le _⟩ (fun H locs hW => ?_)
  refine lv_topi (fun v7 e7 => ?_)
  have h := lb_letI e7 h
  refine lv_istore_n (lv' := [(2, .int v7), (0, .ref (lb_ad G 53)), (1, .int x1)]) hx hb dX9_fewest_7 rfl hl (by decide) rfl (fun ls hl => ?_)
  refine lv_iload_n hx hb dX9_fewest_8 rfl (lv_at hl 0 rfl) ?_
  refine lv_if_eq (tgt := 18) hx hb dX9_fewest_9 (by decide) (fun c9 => ?_) (fun c9 => ?_)
  · have h := (if_pos c9).symm.trans h
    refine lv_bipush (v := -9) hx hb dX9_fewest_18 rfl ?_
    refine lv_istore_n (lv' := [(3, .int (-9 : Int32)), (2, .int v7), (0, .ref (lb_ad G 53)), (1, .int x1)]) hx hb dX9_fewest_20 rfl hl (by decide) rfl (fun ls hl => ?_)
    refine lv_iconst (v := 0) hx hb dX9_fewest_21 rfl ?_
    refine lv_istore (lv' := [(4, .int (0 : Int32)), (3, .int (-9 : Int32)), (2, .int v7), (0, .ref (lb_ad G 53)), (1, .int x1)]) hx hb dX9_fewest_22 hl (by decide) rfl (fun ls hl => ?_)
    exact w_X9_fewest_24 X lb_N x1 (-9 : Int32) (0 : Int32) σ _ _ _ h hW (lv_sub hl [3, 4, 1, 0] rfl)
  · have h := (if_neg c9).symm.trans h
    refine lv_aload_n hx hb dX9_fewest_12 rfl (lv_at hl 1 rfl) ?_
    refine lv_iload_n hx hb dX9_fewest_13 rfl (lv_at hl 0 rfl) ?_
    obtain ⟨q14, e14, h⟩ := lb_bind h
    refine rc_X9_35 X hW e14 ⟨⟨rfl, rfl⟩, Nat.le_of_ble_eq_true rfl, Nat.le_of_ble_eq_true rfl⟩ hl.1 (Nat.le_of_ble_eq_true rfl) dX9_fewest_14 ⟨Nat.zero_le _, Nat.zero_le _⟩ (fun H locs hW => ?_)
    obtain rfl := Option.some.inj h
    exact lb_iret X hW dX9_fewest_17
