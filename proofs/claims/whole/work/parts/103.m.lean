abbrev rmX7_spoonsOf : Room := { frames := 0, cells := 0, slots := 0, locals := 0 }
def f_X7_spoonsOf_4 (σ : lb_Mem) (b0 : Nat) : Nat → Int32 → Int32 → Int32 → Option Int32
  | 0, _, _, _ => none
  | n + 1, x1, x2, x3 => if (σ b0 9) ≤ x3 then some x2 else lb_chk (lb_ix x3 8) (if (σ (b0 + 10) x3.toNatClampNeg) = x1 then lb_chk (lb_ix x3 8) (lb_let ((x2 + (σ (b0 + 12) x3.toNatClampNeg))) (fun v30 : Int32 => f_X7_spoonsOf_4 σ b0 n x1 v30 (x3 + 1))) else f_X7_spoonsOf_4 σ b0 n x1 x2 (x3 + 1))
set_option maxRecDepth 20000 in
set_option maxHeartbeats 4000000 in
theorem w_X7_spoonsOf_4 {p : Program} {l : Launch} {e : Env} {s : State} {m : MethodId} {args : Array Value} {below : List Frame} {meth : Method} {c : Code} {G : lb_G} {σ : lb_Mem} {b0 : Nat} {qr : Int32} (X : lb_C G p s m args meth c cX7_spoonsOf 4 RX7 (some .int)) (hb0 : lb_V b0) : ∀ (n : Nat) (x1 : Int32) (x2 : Int32) (x3 : Int32) (H : Heap) (locs : List Loc) (ls : Array Slot), f_X7_spoonsOf_4 σ b0 n x1 x2 x3 = some qr → lb_W G s σ H locs → lv_has ls 4 [(0, .ref (lb_ad G b0)), (1, .int x1), (2, .int x2), (3, .int x3)] → W p l e rmX7_spoonsOf s m args below meth c H locs 0 0 (MQ below (lb_QI G qr σ) args s 0 0 (lb_A G)) (F0 m 4 ls []) := by
  have hx := X.1
  have hb := X.2.1
  intro n
  induction n with
  | zero => intro x1 x2 x3 H locs ls h hW hl; exact absurd h (fun z => by cases z)
  | succ n ih =>
    intro x1 x2 x3 H locs ls h hW hl
    have h : (if (σ b0 9) ≤ x3 then some x2 else lb_chk (lb_ix x3 8) (if (σ (b0 + 10) x3.toNatClampNeg) = x1 then lb_chk (lb_ix x3 8) (lb_let ((x2 + (σ (b0 + 12) x3.toNatClampNeg))) (fun v30 : Int32 => f_X7_spoonsOf_4 σ b0 n x1 v30 (x3 + 1))) else f_X7_spoonsOf_4 σ b0 n x1 x2 (x3 + 1))) = some qr := h
    refine lv_iload_n hx hb dX7_spoonsOf_4 rfl (lv_at hl 3 rfl) ?_
    refine lv_aload_n hx hb dX7_spoonsOf_5 rfl (lv_at hl 0 rfl) ?_
    refine rg_X7_58 X hW hb0 dX7_spoonsOf_6 ?_
    refine lv_icmp_ge (tgt := 37) hx hb dX7_spoonsOf_9 (by decide) (fun c9 => ?_) (fun c9 => ?_)
    · have h := (if_pos c9).symm.trans h
      refine lv_iload_n hx hb dX7_spoonsOf_37 rfl (lv_at hl 2 rfl) ?_
      obtain rfl := Option.some.inj h
      exact lb_iret X hW dX7_spoonsOf_38
    · have h := (if_neg c9).symm.trans h
      refine lv_aload_n hx hb dX7_spoonsOf_12 rfl (lv_at hl 0 rfl) ?_
      refine rg_X7_40 (k := (b0 + 10)) X hW hb0 rfl dX7_spoonsOf_13 ?_
      refine lv_iload_n hx hb dX7_spoonsOf_16 rfl (lv_at hl 3 rfl) ?_
      obtain ⟨i17, h⟩ := lb_chk_in h
      refine lb_ild X hW (lb_Var10 hb0) i17 dX7_spoonsOf_17 ?_
      refine lv_iload_n hx hb dX7_spoonsOf_18 rfl (lv_at hl 1 rfl) ?_
      refine lv_icmp_ne (tgt := 31) hx hb dX7_spoonsOf_19 (by decide) (fun c19 => ?_) (fun c19 => ?_)
      · have h := (if_neg c19).symm.trans h
        refine lv_iinc (v := (x3 + 1)) (lv' := [(3, .int (x3 + 1)), (0, .ref (lb_ad G b0)), (1, .int x1), (2, .int x2)]) hx hb dX7_spoonsOf_31 hl (k := 3) rfl rfl (by decide) rfl (fun ls hl => ?_)
        refine lv_goto (tgt := 4) hx hb dX7_spoonsOf_34 (by decide) ?_
        exact ih x1 x2 (x3 + 1) _ _ _ h hW (lv_sub hl [1, 2, 3, 0] rfl)
      · have h := (if_pos c19).symm.trans h
        refine lv_iload_n hx hb dX7_spoonsOf_22 rfl (lv_at hl 2 rfl) ?_
        refine lv_aload_n hx hb dX7_spoonsOf_23 rfl (lv_at hl 0 rfl) ?_
        refine rg_X7_46 (k := (b0 + 12)) X hW hb0 rfl dX7_spoonsOf_24 ?_
        refine lv_iload_n hx hb dX7_spoonsOf_27 rfl (lv_at hl 3 rfl) ?_
        obtain ⟨i28, h⟩ := lb_chk_in h
        refine lb_ild X hW (lb_Var12 hb0) i28 dX7_spoonsOf_28 ?_
        refine lv_iadd hx hb dX7_spoonsOf_29 ?_
        refine lv_topi (fun v30 e30 => ?_)
        have h := lb_letI e30 h
        refine lv_istore_n (lv' := [(2, .int v30), (0, .ref (lb_ad G b0)), (1, .int x1), (3, .int x3)]) hx hb dX7_spoonsOf_30 rfl hl (by decide) rfl (fun ls hl => ?_)
        refine lv_iinc (v := (x3 + 1)) (lv' := [(3, .int (x3 + 1)), (2, .int v30), (0, .ref (lb_ad G b0)), (1, .int x1)]) hx hb dX7_spoonsOf_31 hl (k := 3) rfl rfl (by decide) rfl (fun ls hl => ?_)
        refine lv_goto (tgt := 4) hx hb dX7_spoonsOf_34 (by decide) ?_
        exact ih x1 v30 (x3 + 1) _ _ _ h hW (lv_sub hl [2, 3, 1, 0] rfl)
def f_X7_spoonsOf (σ : lb_Mem) (b0 : Nat) (x1 : Int32) : Option Int32 := f_X7_spoonsOf_4 σ b0 lb_N x1 (0 : Int32) (0 : Int32)
set_option maxRecDepth 20000 in
set_option maxHeartbeats 4000000 in
theorem m_X7_spoonsOf (l : Launch) (G : lb_G) (σ : lb_Mem) {b0 : Nat} (hb0 : lb_V b0) (x1 : Int32) (qr : Int32) (h : f_X7_spoonsOf σ b0 x1 = some qr) : lb_M l yX7_spoonsOf cX7_spoonsOf 4 (some .int) rmX7_spoonsOf [.ref (lb_ad G b0), .int x1] G σ (lb_QI G qr σ) := by
  refine lb_start RX7 (by decide +kernel) rfl (Nat.le_of_ble_eq_true rfl) (fun p e s m below meth c X hW ls hl => ?_)
  have hx := X.1
  have hb := X.2.1
  have hl : lv_has ls 4 [(0, .ref (lb_ad G b0)), (1, .int x1)] := hl
  have h : (f_X7_spoonsOf_4 σ b0 lb_N x1 (0 : Int32) (0 : Int32)) = some qr := h
  skip
  refine lv_iconst (v := 0) hx hb dX7_spoonsOf_0 rfl ?_
  refine lv_istore_n (lv' := [(2, .int (0 : Int32)), (0, .ref (lb_ad G b0)), (1, .int x1)]) hx hb dX7_spoonsOf_1 rfl hl (by decide) rfl (fun ls hl => ?_)
  refine lv_iconst (v := 0) hx hb dX7_spoonsOf_2 rfl ?_
  refine lv_istore_n (lv' := [(3, .int (0 : Int32)), (2, .int (0 : Int32)), (0, .ref (lb_ad G b0)), (1, .int x1)]) hx hb dX7_spoonsOf_3 rfl hl (by decide) rfl (fun ls hl => ?_)
  exact w_X7_spoonsOf_4 X hb0 lb_N x1 (0 : Int32) (0 : Int32) _ _ _ h hW (lv_sub hl [2, 3, 1, 0] rfl)
theorem rc_X7_112 {p : Program} {l : Launch} {e : Env} {R : Room} {s : State} {m : MethodId} {args : Array Value} {below : List Frame} {meth : Method} {c : Code} {H : Heap} {locs : List Loc} {cells slots : Nat} {Q : State → Prop} {cc : ByteArray} {pc nL : Nat} {ls : Array Slot} {rest : List Value} {G : lb_G} {σ : lb_Mem} {ret : Option FieldType} (X : lb_C G p s m args meth c cc nL RX7 ret) (hW : lb_W G s σ H locs) {b0 : Nat} (hb0 : lb_V b0) {x1 : Int32} {qr : Int32} (h : f_X7_spoonsOf σ b0 x1 = some qr) (hR : lb_room rmX7_spoonsOf R 4) (hls : ls.size = nL) (hrest : (rest.map fun v => v.category).sum ≤ 8) (d : decode cc pc = .ok (.invokevirtual 112, 3)) (hcap : cells ≤ R.cells ∧ slots ≤ R.slots) (kk : ∀ (H1 : Heap) (locs1 : List Loc), lb_W G s σ H1 locs1 → W p l e R s m args below meth c H1 locs1 cells slots Q (F0 m (pc + 3) ls (.int qr :: rest))) : W p l e R s m args below meth c H locs cells slots Q (F0 m pc ls (.int x1 :: .ref (lb_ad G b0) :: rest)) :=
  lb_goI hW (lb_runV (As := [.int x1]) X hW (m_X7_spoonsOf l G σ hb0 x1 qr h) (n := 1) ⟨qw_624, qw_44, qw_627, by decide +kernel⟩ hR qw_625 qw_626 (lb_isV hb0) rfl hls hrest d hcap) kk
abbrev rmX7_mostHeld : Room := { frames := 1, cells := 0, slots := 0, locals := 23 }
def f_X7_mostHeld_4 (σ : lb_Mem) (b0 : Nat) : Nat → Int32 → Int32 → Option Int32
  | 0, _, _ => none
  | n + 1, x1, x2 => if (6 : Int32) ≤ x2 then some x1 else (f_X7_spoonsOf σ b0 x2).bind (fun q12 => (f_X7_spoonsOf σ b0 x1).bind (fun q17 => if q12 ≤ q17 then f_X7_mostHeld_4 σ b0 n x1 (x2 + 1) else f_X7_mostHeld_4 σ b0 n x2 (x2 + 1)))
set_option maxRecDepth 20000 in
set_option maxHeartbeats 4000000 in
theorem w_X7_mostHeld_4 {p : Program} {l : Launch} {e : Env} {s : State} {m : MethodId} {args : Array Value} {below : List Frame} {meth : Method} {c : Code} {G : lb_G} {σ : lb_Mem} {b0 : Nat} {qr : Int32} (X : lb_C G p s m args meth c cX7_mostHeld 3 RX7 (some .int)) (hb0 : lb_V b0) : ∀ (n : Nat) (x1 : Int32) (x2 : Int32) (H : Heap) (locs : List Loc) (ls : Array Slot), f_X7_mostHeld_4 σ b0 n x1 x2 = some qr → lb_W G s σ H locs → lv_has ls 3 [(0, .ref (lb_ad G b0)), (1, .int x1), (2, .int x2)] → W p l e rmX7_mostHeld s m args below meth c H locs 0 0 (MQ below (lb_QI G qr σ) args s 0 0 (lb_A G)) (F0 m 4 ls []) := by
  have hx := X.1
  have hb := X.2.1
  intro n
  induction n with
  | zero => intro x1 x2 H locs ls h hW hl; exact absurd h (fun z => by cases z)
  | succ n ih =>
    intro x1 x2 H locs ls h hW hl
    have h : (if (6 : Int32) ≤ x2 then some x1 else (f_X7_spoonsOf σ b0 x2).bind (fun q12 => (f_X7_spoonsOf σ b0 x1).bind (fun q17 => if q12 ≤ q17 then f_X7_mostHeld_4 σ b0 n x1 (x2 + 1) else f_X7_mostHeld_4 σ b0 n x2 (x2 + 1)))) = some qr := h
    refine lv_iload_n hx hb dX7_mostHeld_4 rfl (lv_at hl 2 rfl) ?_
    refine lv_bipush (v := 6) hx hb dX7_mostHeld_5 rfl ?_
    refine lv_icmp_ge (tgt := 31) hx hb dX7_mostHeld_7 (by decide) (fun c7 => ?_) (fun c7 => ?_)
    · have h := (if_pos c7).symm.trans h
      refine lv_iload_n hx hb dX7_mostHeld_31 rfl (lv_at hl 1 rfl) ?_
      obtain rfl := Option.some.inj h
      exact lb_iret X hW dX7_mostHeld_32
    · have h := (if_neg c7).symm.trans h
      refine lv_aload_n hx hb dX7_mostHeld_10 rfl (lv_at hl 0 rfl) ?_
      refine lv_iload_n hx hb dX7_mostHeld_11 rfl (lv_at hl 2 rfl) ?_
      obtain ⟨q12, e12, h⟩ := lb_bind h
      refine rc_X7_112 X hW hb0 e12 ⟨⟨rfl, rfl⟩, Nat.le_of_ble_eq_true rfl, Nat.le_of_ble_eq_true rfl⟩ hl.1 (Nat.le_of_ble_eq_true rfl) dX7_mostHeld_12 ⟨Nat.zero_le _, Nat.zero_le _⟩ (fun H locs hW => ?_)
      refine lv_aload_n hx hb dX7_mostHeld_15 rfl (lv_at hl 0 rfl) ?_
      refine lv_iload_n hx hb dX7_mostHeld_16 rfl (lv_at hl 1 rfl) ?_
      obtain ⟨q17, e17, h⟩ := lb_bind h
      refine rc_X7_112 X hW hb0 e17 ⟨⟨rfl, rfl⟩, Nat.le_of_ble_eq_true rfl, Nat.le_of_ble_eq_true rfl⟩ hl.1 (Nat.le_of_ble_eq_true rfl) dX7_mostHeld_17 ⟨Nat.zero_le _, Nat.zero_le _⟩ (fun H locs hW => ?_)
      refine lv_icmp_le (tgt := 25) hx hb dX7_mostHeld_20 (by decide) (fun c20 => ?_) (fun c20 => ?_)
      · have h := (if_pos c20).symm.trans h
        refine lv_iinc (v := (x2 + 1)) (lv' := [(2, .int (x2 + 1)), (0, .ref (lb_ad G b0)), (1, .int x1)]) hx hb dX7_mostHeld_25 hl (k := 2) rfl rfl (by decide) rfl (fun ls hl => ?_)
        refine lv_goto (tgt := 4) hx hb dX7_mostHeld_28 (by decide) ?_
        exact ih x1 (x2 + 1) _ _ _ h hW (lv_sub hl [1, 2, 0] rfl)
      · have h := (if_neg c20).symm.trans h
        refine lv_iload_n hx hb dX7_mostHeld_23 rfl (lv_at hl 2 rfl) ?_
        refine lv_istore_n (lv' := [(1, .int x2), (0, .ref (lb_ad G b0)), (2, .int x2)]) hx hb dX7_mostHeld_24 rfl hl (by decide) rfl (fun ls hl => ?_)
        refine lv_iinc (v := (x2 + 1)) (lv' := [(2, .int (x2 + 1)), (1, .int x2), (0, .ref (lb_ad G b0))]) hx hb dX7_mostHeld_25 hl (k := 2) rfl rfl (by decide) rfl (fun ls hl => ?_)
        refine lv_goto (tgt := 4) hx hb dX7_mostHeld_28 (by decide) ?_
        exact ih x2 (x2 + 1) _ _ _ h hW (lv_sub hl [2, 1, 0] rfl)
def f_X7_mostHeld (σ : lb_Mem) (b0 : Nat) : Option Int32 := f_X7_mostHeld_4 σ b0 lb_N (0 : Int32) (1 : Int32)
set_option maxRecDepth 20000 in
set_option maxHeartbeats 4000000 in
theorem m_X7_mostHeld (l : Launch) (G : lb_G) (σ : lb_Mem) {b0 : Nat} (hb0 : lb_V b0) (qr : Int32) (h : f_X7_mostHeld σ b0 = some qr) : lb_M l yX7_mostHeld cX7_mostHeld 3 (some .int) rmX7_mostHeld [.ref (lb_ad G b0)] G σ (lb_QI G qr σ) := by
  refine lb_start RX7 (by decide +kernel) rfl (Nat.le_of_ble_eq_true rfl) (fun p e s m below meth c X hW ls hl => ?_)
  have hx := X.1
  have hb := X.2.1
  have hl : lv_has ls 3 [(0, .ref (lb_ad G b0))] := hl
  have h : (f_X7_mostHeld_4 σ b0 lb_N (0 : Int32) (1 : Int32)) = some qr := h
  skip
  refine lv_iconst (v := 0) hx hb dX7_mostHeld_0 rfl ?_
  refine lv_istore_n (lv' := [(1, .int (0 : Int32)), (0, .ref (lb_ad G b0))]) hx hb dX7_mostHeld_1 rfl hl (by decide) rfl (fun ls hl => ?_)
  refine lv_iconst (v := 1) hx hb dX7_mostHeld_2 rfl ?_
  refine lv_istore_n (lv' := [(2, .int (1 : Int32)), (1, .int (0 : Int32)), (0, .ref (lb_ad G b0))]) hx hb dX7_mostHeld_3 rfl hl (by decide) rfl (fun ls hl => ?_)
  exact w_X7_mostHeld_4 X hb0 lb_N (0 : Int32) (1 : Int32) _ _ _ h hW (lv_sub hl [2, 1, 0] rfl)
abbrev rmX8_within : Room := { frames := 0, cells := 0, slots := 0, locals := 0 }
def f_X8_within (x0 : Int32) (x1 : Int32) (x2 : Int32) : Int32 := if x1 ≤ x0 then if x0 ≤ x2 then (0 : Int32) else (-6 : Int32) else (-4 : Int32)
set_option maxRecDepth 20000 in
set_option maxHeartbeats 4000000 in
theorem m_X8_within (l : Launch) (G : lb_G) (σ : lb_Mem) (x0 : Int32) (x1 : Int32) (x2 : Int32) (qr : Int32) (h : f_X8_within x0 x1 x2 = qr) : lb_M l yX8_within cX8_within 3 (some .int) rmX8_within [.int x0, .int x1, .int x2] G σ (lb_QI G qr σ) := by
  refine lb_start RX8 (by decide +kernel) rfl (Nat.le_of_ble_eq_true rfl) (fun p e s m below meth c X hW ls hl => ?_)
  have hx := X.1
  have hb := X.2.1
  have hl : lv_has ls 3 [(0, .int x0), (1, .int x1), (2, .int x2)] := hl
  have h : (if x1 ≤ x0 then if x0 ≤ x2 then (0 : Int32) else (-6 : Int32) else (-4 : Int32)) = qr := h
  skip
  refine lv_iload_n hx hb dX8_within_0 rfl (lv_at hl 0 rfl) ?_
  refine lv_iload_n hx hb dX8_within_1 rfl (lv_at hl 1 rfl) ?_
  refine lv_icmp_ge (tgt := 8) hx hb dX8_within_2 (by decide) (fun c2 => ?_) (fun c2 => ?_)
  · have h := (if_pos c2).symm.trans h
    refine lv_iload_n hx hb dX8_within_8 rfl (lv_at hl 0 rfl) ?_
    refine lv_iload_n hx hb dX8_within_9 rfl (lv_at hl 2 rfl) ?_
    refine lv_icmp_le (tgt := 18) hx hb dX8_within_10 (by decide) (fun c10 => ?_) (fun c10 => ?_)
    · have h := (if_pos c10).symm.trans h
      refine lv_iconst (v := 0) hx hb dX8_within_18 rfl ?_
      subst h
      exact lb_iret X hW dX8_within_19
    · have h := (if_neg c10).symm.trans h
      refine lv_bipush (v := -6) hx hb dX8_within_13 rfl ?_
      refine lv_goto (tgt := 19) hx hb dX8_within_15 (by decide) ?_
      subst h
      exact lb_iret X hW dX8_within_19
  · have h := (if_neg c2).symm.trans h
    refine lv_bipush (v := -4) hx hb dX8_within_5 rfl ?_
    subst h
    exact lb_iret X hW dX8_within_7
abbrev rmX8_first : Room := { frames := 0, cells := 0, slots := 0, locals := 0 }
def f_X8_first (x0 : Int32) (x1 : Int32) : Int32 := if x0 = 0 then x1 else x0
set_option maxRecDepth 20000 in
set_option maxHeartbeats 4000000 in
theorem m_X8_first (l : Launch) (G : lb_G) (σ : lb_Mem) (x0 : Int32) (x1 : Int32) (qr : Int32) (h : f_X8_first x0 x1 = qr) : lb_M l yX8_first cX8_first 2 (some .int) rmX8_first [.int x0, .int x1] G σ (lb_QI G qr σ) := by
  refine lb_start RX8 (by decide +kernel) rfl (Nat.le_of_ble_eq_true rfl) (fun p e s m below meth c X hW ls hl => ?_)
  have hx := X.1
  have hb := X.2.1
  have hl : lv_has ls 2 [(0, .int x0), (1, .int x1)] := hl
  have h : (if x0 = 0 then x1 else x0) = qr := h
  skip
  refine lv_iload_n hx hb dX8_first_0 rfl (lv_at hl 0 rfl) ?_
  refine lv_if_eq (tgt := 8) hx hb dX8_first_1 (by decide) (fun c1 => ?_) (fun c1 => ?_)
  · have h := (if_pos c1).symm.trans h
    refine lv_iload_n hx hb dX8_first_8 rfl (lv_at hl 1 rfl) ?_
    subst h
    exact lb_iret X hW dX8_first_9
  · have h := (if_neg c1).symm.trans h
    refine lv_iload_n hx hb dX8_first_4 rfl (lv_at hl 0 rfl) ?_
    refine lv_goto (tgt := 9) hx hb dX8_first_5 (by decide) ?_
    subst h
    exact lb_iret X hW dX8_first_9
abbrev rmX8_refuse : Room := { frames := 0, cells := 0, slots := 0, locals := 0 }
def f_X8_refuse (x1 : Int32) (σ : lb_Mem) : Option (Int32 × lb_Mem) := lb_chk (lb_ix (-x1) 7) (lb_chk (lb_ix (-x1) 7) (lb_let (lb_sto σ 52 (-x1).toNatClampNeg ((σ 52 (-x1).toNatClampNeg) + (1 : Int32))) (fun s10 : lb_Mem => some (x1, s10))))
set_option maxRecDepth 20000 in
set_option maxHeartbeats 4000000 in
theorem m_X8_refuse (l : Launch) (G : lb_G) (σ : lb_Mem) (x1 : Int32) (qr : (Int32 × lb_Mem)) (h : f_X8_refuse x1 σ = some qr) : lb_M l yX8_refuse cX8_refuse 2 (some .int) rmX8_refuse [.ref (lb_ad G 0), .int x1] G σ (lb_QI G qr.1 qr.2) := by
  refine lb_start RX8 (by decide +kernel) rfl (Nat.le_of_ble_eq_true rfl) (fun p e s m below meth c X hW ls hl => ?_)
  have hx := X.1
  have hb := X.2.1
  have hl : lv_has ls 2 [(0, .ref (lb_ad G 0)), (1, .int x1)] := hl
  have h : (lb_chk (lb_ix (-x1) 7) (lb_chk (lb_ix (-x1) 7) (lb_let (lb_sto σ 52 (-x1).toNatClampNeg ((σ 52 (-x1).toNatClampNeg) + (1 : Int32))) (fun s10 : lb_Mem => some (x1, s10))))) = some qr := h
  skip
  refine lv_aload_n hx hb dX8_refuse_0 rfl (lv_at hl 0 rfl) ?_
  refine rg_X8_41 X hW dX8_refuse_1 ?_
  refine lv_iload_n hx hb dX8_refuse_4 rfl (lv_at hl 1 rfl) ?_
  refine lv_ineg hx hb dX8_refuse_5 ?_
  refine lv_dup2_11 hx hb dX8_refuse_6 rfl rfl ?_
  obtain ⟨i7, h⟩ := lb_chk_in h
  refine lb_ild X hW (show lb_ar 52 = 6 + 1 from rfl) i7 dX8_refuse_7 ?_
  refine lv_iconst (v := 1) hx hb dX8_refuse_8 rfl ?_
  refine lv_iadd hx hb dX8_refuse_9 ?_
  obtain ⟨i10, h⟩ := lb_chk_in h
  refine lb_ist X hW (show lb_ar 52 = 6 + 1 from rfl) i10 dX8_refuse_10 (fun H locs hW => ?_)
  obtain ⟨s10, e10⟩ : ∃ z, z = lb_sto σ 52 (-x1).toNatClampNeg ((σ 52 (-x1).toNatClampNeg) + (1 : Int32)) := ⟨_, rfl⟩
  rw [← e10] at hW
  have h := lb_letI e10 h
  refine lv_iload_n hx hb dX8_refuse_11 rfl (lv_at hl 1 rfl) ?_
  obtain rfl := Option.some.inj h
  exact lb_iret X hW dX8_refuse_12
theorem rc_X8_44 {p : Program} {l : Launch} {e : Env} {R : Room} {s : State} {m : MethodId} {args : Array Value} {below : List Frame} {meth : Method} {c : Code} {H : Heap} {locs : List Loc} {cells slots : Nat} {Q : State → Prop} {cc : ByteArray} {pc nL : Nat} {ls : Array Slot} {rest : List Value} {G : lb_G} {σ : lb_Mem} {ret : Option FieldType} (X : lb_C G p s m args meth c cc nL RX8 ret) (hW : lb_W G s σ H locs) (x0 : Int32) (x1 : Int32) (x2 : Int32) (hR : lb_room rmX8_within R 3) (hls : ls.size = nL) (hrest : (rest.map fun v => v.category).sum ≤ 8) (d : decode cc pc = .ok (.invokestatic 44, 3)) (hcap : cells ≤ R.cells ∧ slots ≤ R.slots) (kk : ∀ (H1 : Heap) (locs1 : List Loc), lb_W G s σ H1 locs1 → W p l e R s m args below meth c H1 locs1 cells slots Q (F0 m (pc + 3) ls (.int (f_X8_within x0 x1 x2) :: rest))) : W p l e R s m args below meth c H locs cells slots Q (F0 m pc ls (.int x2 :: .int x1 :: .int x0 :: rest)) :=
  lb_goI hW (lb_runS (As := [.int x0, .int x1, .int x2]) X hW (m_X8_within l G σ x0 x1 x2 _ rfl) (n := 3) ⟨qw_210, qw_43, qw_212, by decide +kernel⟩ hR qw_211 rfl hls hrest d hcap) kk
theorem rc_X8_51 {p : Program} {l : Launch} {e : Env} {R : Room} {s : State} {m : MethodId} {args : Array Value} {below : List Frame} {meth : Method} {c : Code} {H : Heap} {locs : List Loc} {cells slots : Nat} {Q : State → Prop} {cc : ByteArray} {pc nL : Nat} {ls : Array Slot} {rest : List Value} {G : lb_G} {σ : lb_Mem} {ret : Option FieldType} (X : lb_C G p s m args meth c cc nL RX8 ret) (hW : lb_W G s σ H locs) (x0 : Int32) (x1 : Int32) (hR : lb_room rmX8_first R 2) (hls : ls.size = nL) (hrest : (rest.map fun v => v.category).sum ≤ 8) (d : decode cc pc = .ok (.invokestatic 51, 3)) (hcap : cells ≤ R.cells ∧ slots ≤ R.slots) (kk : ∀ (H1 : Heap) (locs1 : List Loc), lb_W G s σ H1 locs1 → W p l e R s m args below meth c H1 locs1 cells slots Q (F0 m (pc + 3) ls (.int (f_X8_first x0 x1) :: rest))) : W p l e R s m args below meth c H locs cells slots Q (F0 m pc ls (.int x1 :: .int x0 :: rest)) :=
  lb_goI hW (lb_runS (As := [.int x0, .int x1]) X hW (m_X8_first l G σ x0 x1 _ rfl) (n := 2) ⟨qw_213, qw_43, qw_215, by decide +kernel⟩ hR qw_214 rfl hls hrest d hcap) kk
theorem rc_X8_55 {p : Program} {l : Launch} {e : Env} {R : Room} {s : State} {m : MethodId} {args : Array Value} {below : List Frame} {meth : Method} {c : Code} {H : Heap} {locs : List Loc} {cells slots : Nat} {Q : State → Prop} {cc : ByteArray} {pc nL : Nat} {ls : Array Slot} {rest : List Value} {G : lb_G} {σ : lb_Mem} {ret : Option FieldType} (X : lb_C G p s m args meth c cc nL RX8 ret) (hW : lb_W G s σ H locs) {x1 : Int32} {qr : (Int32 × lb_Mem)} (h : f_X8_refuse x1 σ = some qr) (hR : lb_room rmX8_refuse R 2) (hls : ls.size = nL) (hrest : (rest.map fun v => v.category).sum ≤ 8) (d : decode cc pc = .ok (.invokevirtual 55, 3)) (hcap : cells ≤ R.cells ∧ slots ≤ R.slots) (kk : ∀ (H1 : Heap) (locs1 : List Loc), lb_W G s qr.2 H1 locs1 → W p l e R s m args below meth c H1 locs1 cells slots Q (F0 m (pc + 3) ls (.int qr.1 :: rest))) : W p l e R s m args below meth c H locs cells slots Q (F0 m pc ls (.int x1 :: .ref (lb_ad G 0) :: rest)) :=
  lb_goI hW (lb_runV (As := [.int x1]) X hW (m_X8_refuse l G σ x1 qr h) (n := 1) ⟨qw_216, qw_43, qw_219, by decide +kernel⟩ hR qw_218 qw_0 lb_is0 rfl hls hrest d hcap) kk
theorem rc_X8_59 {p : Program} {l : Launch} {e : Env} {R : Room} {s : State} {m : MethodId} {args : Array Value} {below : List Frame} {meth : Method} {c : Code} {H : Heap} {locs : List Loc} {cells slots : Nat} {Q : State → Prop} {cc : ByteArray} {pc nL : Nat} {ls : Array Slot} {rest : List Value} {G : lb_G} {σ : lb_Mem} {ret : Option FieldType} (X : lb_C G p s m args meth c cc nL RX8 ret) (hW : lb_W G s σ H locs) {x1 : Int32} {qr : lb_Mem} (h : f_X4_add x1 σ = some qr) (hR : lb_room rmX4_add R 2) (hls : ls.size = nL) (hrest : (rest.map fun v => v.category).sum ≤ 8) (d : decode cc pc = .ok (.invokevirtual 59, 3)) (hcap : cells ≤ R.cells ∧ slots ≤ R.slots) (kk : ∀ (H1 : Heap) (locs1 : List Loc), lb_W G s qr H1 locs1 → W p l e R s m args below meth c H1 locs1 cells slots Q (F0 m (pc + 3) ls rest)) : W p l e R s m args below meth c H locs cells slots Q (F0 m pc ls (.int x1 :: .ref (lb_ad G 49) :: rest)) :=
  lb_goV hW (lb_runV (As := [.int x1]) X hW (m_X4_add l G σ x1 qr h) (n := 1) ⟨qw_220, qw_51, qw_223, by decide +kernel⟩ hR qw_221 qw_222 lb_is49 rfl hls hrest d hcap) kk
abbrev rmX8_letter : Room := { frames := 1, cells := 0, slots := 0, locals := 22 }
def f_X8_letter_26 (x1 : Int32) (σ : lb_Mem) (y0 : Int32) (y1 : Int32) : Option (Int32 × lb_Mem) := lb_let ((f_X8_first y0 y1)) (fun v29 : Int32 => if v29 = 0 then (f_X4_add x1 σ).bind (fun s45 => some ((s45 49 1), s45)) else (f_X8_refuse v29 σ).bind (fun q36 => some (q36.1, q36.2)))
set_option maxRecDepth 20000 in
set_option maxHeartbeats 4000000 in
theorem w_X8_letter_26 {p : Program} {l : Launch} {e : Env} {s : State} {m : MethodId} {args : Array Value} {below : List Frame} {meth : Method} {c : Code} {G : lb_G} {qr : (Int32 × lb_Mem)} (X : lb_C G p s m args meth c cX8_letter 3 RX8 (some .int)) : ∀ (x1 : Int32) (σ : lb_Mem) (y0 : Int32) (y1 : Int32) (H : Heap) (locs : List Loc) (ls : Array Slot), f_X8_letter_26 x1 σ y0 y1 = some qr → lb_W G s σ H locs → lv_has ls 3 [(0, .ref (lb_ad G 0)), (1, .int x1)] → W p l e rmX8_letter s m args below meth c H locs 0 0 (MQ below (lb_QI G qr.1 qr.2) args s 0 0 (lb_A G)) (F0 m 26 ls [.int y1, .int y0]) := by
  have hx := X.1
  have hb := X.2.1
  intro x1 σ y0 y1 H locs ls h hW hl
  have h : (lb_let ((f_X8_first y0 y1)) (fun v29 : Int32 => if v29 = 0 then (f_X4_add x1 σ).bind (fun s45 => some ((s45 49 1), s45)) else (f_X8_refuse v29 σ).bind (fun q36 => some (q36.1, q36.2)))) = some qr := h
  refine rc_X8_51 X hW y0 y1 ⟨⟨rfl, rfl⟩, Nat.le_of_ble_eq_true rfl, Nat.le_of_ble_eq_true rfl⟩ hl.1 (Nat.le_of_ble_eq_true rfl) dX8_letter_26 ⟨Nat.zero_le _, Nat.zero_le _⟩ (fun H locs hW => ?_)
  refine lv_topi (fun v29 e29 => ?_)
  have h := lb_letI e29 h
  refine lv_istore_n (lv' := [(2, .int v29), (0, .ref (lb_ad G 0)), (1, .int x1)]) hx hb dX8_letter_29 rfl hl (by decide) rfl (fun ls hl => ?_)
  refine lv_iload_n hx hb dX8_letter_30 rfl (lv_at hl 0 rfl) ?_
  refine lv_if_eq (tgt := 40) hx hb dX8_letter_31 (by decide) (fun c31 => ?_) (fun c31 => ?_)
  · have h := (if_pos c31).symm.trans h
    refine lv_aload_n hx hb dX8_letter_40 rfl (lv_at hl 1 rfl) ?_
    refine rg_X8_29 X hW dX8_letter_41 ?_
    refine lv_iload_n hx hb dX8_letter_44 rfl (lv_at hl 2 rfl) ?_
    obtain ⟨s45, e45, h⟩ := lb_bind h
    refine rc_X8_59 X hW e45 ⟨⟨rfl, rfl⟩, Nat.le_of_ble_eq_true rfl, Nat.le_of_ble_eq_true rfl⟩ hl.1 (Nat.le_of_ble_eq_true rfl) dX8_letter_45 ⟨Nat.zero_le _, Nat.zero_le _⟩ (fun H locs hW => ?_)
    refine lv_aload_n hx hb dX8_letter_48 rfl (lv_at hl 1 rfl) ?_
    refine rg_X8_29 X hW dX8_letter_49 ?_
    refine rg_X8_48 X hW dX8_letter_52 ?_
    obtain rfl := Option.some.inj h
    exact lb_iret X hW dX8_letter_55
  · have h := (if_neg c31).symm.trans h
    refine lv_aload_n hx hb dX8_letter_34 rfl (lv_at hl 1 rfl) ?_
    refine lv_iload_n hx hb dX8_letter_35 rfl (lv_at hl 0 rfl) ?_
    obtain ⟨q36, e36, h⟩ := lb_bind h
    refine rc_X8_55 X hW e36 ⟨⟨rfl, rfl⟩, Nat.le_of_ble_eq_true rfl, Nat.le_of_ble_eq_true rfl⟩ hl.1 (Nat.le_of_ble_eq_true rfl) dX8_letter_36 ⟨Nat.zero_le _, Nat.zero_le _⟩ (fun H locs hW => ?_)
    obtain rfl := Option.some.inj h
    exact lb_iret X hW dX8_letter_39
def f_X8_letter (x1 : Int32) (σ : lb_Mem) : Option (Int32 × lb_Mem) := if (96 : Int32) ≤ (σ 49 1) then f_X8_letter_26 x1 σ (f_X8_within x1 (0 : Int32) (255 : Int32)) (-6 : Int32) else f_X8_letter_26 x1 σ (f_X8_within x1 (0 : Int32) (255 : Int32)) (0 : Int32)
set_option maxRecDepth 20000 in
set_option maxHeartbeats 4000000 in
theorem m_X8_letter (l : Launch) (G : lb_G) (σ : lb_Mem) (x1 : Int32) (qr : (Int32 × lb_Mem)) (h : f_X8_letter x1 σ = some qr) : lb_M l yX8_letter cX8_letter 3 (some .int) rmX8_letter [.ref (lb_ad G 0), .int x1] G σ (lb_QI G qr.1 qr.2) := by
  refine lb_start RX8 (by decide +kernel) rfl (Nat.le_of_ble_eq_true rfl) (fun p e s m below meth c X hW ls hl => ?_)
  have hx := X.1
  have hb := X.2.1
  have hl : lv_has ls 3 [(0, .ref (lb_ad G 0)), (1, .int x1)] := hl
  have h : (if (96 : Int32) ≤ (σ 49 1) then f_X8_letter_26 x1 σ (f_X8_within x1 (0 : Int32) (255 : Int32)) (-6 : Int32) else f_X8_letter_26 x1 σ (f_X8_within x1 (0 : Int32) (255 : Int32)) (0 : Int32)) = some qr := h
  skip
  refine lv_iload_n hx hb dX8_letter_0 rfl (lv_at hl 1 rfl) ?_
  refine lv_iconst (v := 0) hx hb dX8_letter_1 rfl ?_
  refine lv_sipush (v := 255) hx hb dX8_letter_2 rfl ?_
  refine rc_X8_44 X hW x1 (0 : Int32) (255 : Int32) ⟨⟨rfl, rfl⟩, Nat.le_of_ble_eq_true rfl, Nat.le_of_ble_eq_true rfl⟩ hl.1 (Nat.le_of_ble_eq_true rfl) dX8_letter_5 ⟨Nat.zero_le _, Nat.zero_le _⟩ (fun H locs hW => ?_)
  refine lv_aload_n hx hb dX8_letter_8 rfl (lv_at hl 0 rfl) ?_
  refine rg_X8_29 X hW dX8_letter_9 ?_
  refine rg_X8_48 X hW dX8_letter_12 ?_
  refine lv_bipush (v := 96) hx hb dX8_letter_15 rfl ?_
  refine lv_icmp_ge (tgt := 24) hx hb dX8_letter_17 (by decide) (fun c17 => ?_) (fun c17 => ?_)
  · have h := (if_pos c17).symm.trans h
    refine lv_bipush (v := -6) hx hb dX8_letter_24 rfl ?_
    exact w_X8_letter_26 X x1 σ (f_X8_within x1 (0 : Int32) (255 : Int32)) (-6 : Int32) _ _ _ h hW (lv_sub hl [0, 1] rfl)
  · have h := (if_neg c17).symm.trans h
    refine lv_iconst (v := 0) hx hb dX8_letter_20 rfl ?_
    refine lv_goto (tgt := 26) hx hb dX8_letter_21 (by decide) ?_
    exact w_X8_letter_26 X x1 σ (f_X8_within x1 (0 : Int32) (255 : Int32)) (0 : Int32) _ _ _ h hW (lv_sub hl [0, 1] rfl)
theorem rc_X8_63 {p : Program} {l : Launch} {e : Env} {R : Room} {s : State} {m : MethodId} {args : Array Value} {below : List Frame} {meth : Method} {c : Code} {H : Heap} {locs : List Loc} {cells slots : Nat} {Q : State → Prop} {cc : ByteArray} {pc nL : Nat} {ls : Array Slot} {rest : List Value} {G : lb_G} {σ : lb_Mem} {ret : Option FieldType} (X : lb_C G p s m args meth c cc nL RX8 ret) (hW : lb_W G s σ H locs) {qr : Int32} (h : f_X4_wrongPlace σ = some qr) (hR : lb_room rmX4_wrongPlace R 4) (hls : ls.size = nL) (hrest : (rest.map fun v => v.category).sum ≤ 8) (d : decode cc pc = .ok (.invokevirtual 63, 3)) (hcap : cells ≤ R.cells ∧ slots ≤ R.slots) (kk : ∀ (H1 : Heap) (locs1 : List Loc), lb_W G s σ H1 locs1 → W p l e R s m args below meth c H1 locs1 cells slots Q (F0 m (pc + 3) ls (.int qr :: rest))) : W p l e R s m args below meth c H locs cells slots Q (F0 m pc ls (.ref (lb_ad G 49) :: rest)) :=
  lb_goI hW (lb_runV (As := []) X hW (m_X4_wrongPlace l G σ qr h) (n := 0) ⟨qw_228, qw_51, qw_231, by decide +kernel⟩ hR qw_229 qw_230 lb_is49 rfl hls hrest d hcap) kk
theorem rc_X8_67 {p : Program} {l : Launch} {e : Env} {R : Room} {s : State} {m : MethodId} {args : Array Value} {below : List Frame} {meth : Method} {c : Code} {H : Heap} {locs : List Loc} {cells slots : Nat} {Q : State → Prop} {cc : ByteArray} {pc nL : Nat} {ls : Array Slot} {rest : List Value} {G : lb_G} {σ : lb_Mem} {ret : Option FieldType} (X : lb_C G p s m args meth c cc nL RX8 ret) (hW : lb_W G s σ H locs) {b0 : Nat} (hb0 : lb_V b0) {b1 : Nat} (hb1 : lb_V b1) {qr : lb_Mem} (h : f_X7_become b0 b1 σ = some qr) (hR : lb_room rmX7_become R 2) (hls : ls.size = nL) (hrest : (rest.map fun v => v.category).sum ≤ 8) (d : decode cc pc = .ok (.invokevirtual 67, 3)) (hcap : cells ≤ R.cells ∧ slots ≤ R.slots) (kk : ∀ (H1 : Heap) (locs1 : List Loc), lb_W G s qr H1 locs1 → W p l e R s m args below meth c H1 locs1 cells slots Q (F0 m (pc + 3) ls rest)) : W p l e R s m args below meth c H locs cells slots Q (F0 m pc ls (.ref (lb_ad G b1) :: .ref (lb_ad G b0) :: rest)) :=
  lb_goV hW (lb_runV (As := [.ref (lb_ad G b1)]) X hW (m_X7_become l G σ hb0 hb1 qr h) (n := 1) ⟨qw_342, qw_44, qw_345, by decide +kernel⟩ hR qw_343 qw_344 (lb_isV hb0) rfl hls hrest d hcap) kk
theorem rc_X8_71 {p : Program} {l : Launch} {e : Env} {R : Room} {s : State} {m : MethodId} {args : Array Value} {below : List Frame} {meth : Method} {c : Code} {H : Heap} {locs : List Loc} {cells slots : Nat} {Q : State → Prop} {cc : ByteArray} {pc nL : Nat} {ls : Array Slot} {rest : List Value} {G : lb_G} {σ : lb_Mem} {ret : Option FieldType} (X : lb_C G p s m args meth c cc nL RX8 ret) (hW : lb_W G s σ H locs) {b2 : Nat} (hb2 : lb_V b2) {x1 : Int32} {qr : (Int32 × lb_Mem)} (h : f_X4_isObeyed b2 x1 σ = some qr) (hR : lb_room rmX4_isObeyed R 7) (hls : ls.size = nL) (hrest : (rest.map fun v => v.category).sum ≤ 8) (d : decode cc pc = .ok (.invokevirtual 71, 3)) (hcap : cells ≤ R.cells ∧ slots ≤ R.slots) (kk : ∀ (H1 : Heap) (locs1 : List Loc), lb_W G s qr.2 H1 locs1 → W p l e R s m args below meth c H1 locs1 cells slots Q (F0 m (pc + 3) ls (.int qr.1 :: rest))) : W p l e R s m args below meth c H locs cells slots Q (F0 m pc ls (.ref (lb_ad G b2) :: .int x1 :: .ref (lb_ad G 49) :: rest)) :=
  lb_goI hW (lb_runV (As := [.int x1, .ref (lb_ad G b2)]) X hW (m_X4_isObeyed l G σ hb2 x1 qr h) (n := 2) ⟨qw_349, qw_51, qw_352, by decide +kernel⟩ hR qw_350 qw_351 lb_is49 rfl hls hrest d hcap) kk
theorem rc_X8_75 {p : Program} {l : Launch} {e : Env} {R : Room} {s : State} {m : MethodId} {args : Array Value} {below : List Frame} {meth : Method} {c : Code} {H : Heap} {locs : List Loc} {cells slots : Nat} {Q : State → Prop} {cc : ByteArray} {pc nL : Nat} {ls : Array Slot} {rest : List Value} {G : lb_G} {σ : lb_Mem} {ret : Option FieldType} (X : lb_C G p s m args meth c cc nL RX8 ret) (hW : lb_W G s σ H locs) {x1 : Int32} {qr : Int32} (h : f_X4_lengthAt σ x1 = some qr) (hR : lb_room rmX4_lengthAt R 2) (hls : ls.size = nL) (hrest : (rest.map fun v => v.category).sum ≤ 8) (d : decode cc pc = .ok (.invokevirtual 75, 3)) (hcap : cells ≤ R.cells ∧ slots ≤ R.slots) (kk : ∀ (H1 : Heap) (locs1 : List Loc), lb_W G s σ H1 locs1 → W p l e R s m args below meth c H1 locs1 cells slots Q (F0 m (pc + 3) ls (.int qr :: rest))) : W p l e R s m args below meth c H locs cells slots Q (F0 m pc ls (.int x1 :: .ref (lb_ad G 49) :: rest)) :=
  lb_goI hW (lb_runV (As := [.int x1]) X hW (m_X4_lengthAt l G σ x1 qr h) (n := 1) ⟨qw_453, qw_51, qw_235, by decide +kernel⟩ hR qw_233 qw_234 lb_is49 rfl hls hrest d hcap) kk
abbrev rmX8_village : Room := { frames := 7, cells := 0, slots := 0, locals := 167 }
def f_X8_village_110 (x2 : Int32) (σ : lb_Mem) : Option (Int32 × lb_Mem) := lb_let (lb_sto σ 49 1 (0 : Int32)) (fun s115 : lb_Mem => some (x2, s115))
set_option maxRecDepth 20000 in
set_option maxHeartbeats 4000000 in
theorem w_X8_village_110 {p : Program} {l : Launch} {e : Env} {s : State} {m : MethodId} {args : Array Value} {below : List Frame} {meth : Method} {c : Code} {G : lb_G} {qr : (Int32 × lb_Mem)} (X : lb_C G p s m args meth c cX8_village 4 RX8 (some .int)) : ∀ (x2 : Int32) (σ : lb_Mem) (H : Heap) (locs : List Loc) (ls : Array Slot), f_X8_village_110 x2 σ = some qr → lb_W G s σ H locs → lv_has ls 4 [(0, .ref (lb_ad G 0)), (2, .int x2)] → W p l e rmX8_village s m args below meth c H locs 0 0 (MQ below (lb_QI G qr.1 qr.2) args s 0 0 (lb_A G)) (F0 m 110 ls []) := by
  have hx := X.1
  have hb := X.2.1
  intro x2 σ H locs ls h hW hl
  have h : (lb_let (lb_sto σ 49 1 (0 : Int32)) (fun s115 : lb_Mem => some (x2, s115))) = some qr := h
  refine lv_aload_n hx hb dX8_village_110 rfl (lv_at hl 0 rfl) ?_
  refine rg_X8_29 X hW dX8_village_111 ?_
  refine lv_iconst (v := 0) hx hb dX8_village_114 rfl ?_
  refine rp_X8_48 X hW dX8_village_115 (fun H locs hW => ?_)
  obtain ⟨s115, e115⟩ : ∃ z, z = lb_sto σ 49 1 (0 : Int32) := ⟨_, rfl⟩
  rw [← e115] at hW
  have h := lb_letI e115 h
  refine lv_iload_n hx hb dX8_village_118 rfl (lv_at hl 1 rfl) ?_
  obtain rfl := Option.some.inj h
  exact lb_iret X hW dX8_village_119
def f_X8_village_95 (x2 : Int32) (σ : lb_Mem) : Option (Int32 × lb_Mem) := if x2 ≤ 0 then f_X8_village_110 x2 σ else (f_X7_become 1 17 σ).bind (fun s107 => f_X8_village_110 x2 s107)
set_option maxRecDepth 20000 in
set_option maxHeartbeats 4000000 in
theorem w_X8_village_95 {p : Program} {l : Launch} {e : Env} {s : State} {m : MethodId} {args : Array Value} {below : List Frame} {meth : Method} {c : Code} {G : lb_G} {qr : (Int32 × lb_Mem)} (X : lb_C G p s m args meth c cX8_village 4 RX8 (some .int)) : ∀ (x2 : Int32) (σ : lb_Mem) (H : Heap) (locs : List Loc) (ls : Array Slot), f_X8_village_95 x2 σ = some qr → lb_W G s σ H locs → lv_has ls 4 [(0, .ref (lb_ad G 0)), (2, .int x2)] → W p l e rmX8_village s m args below meth c H locs 0 0 (MQ below (lb_QI G qr.1 qr.2) args s 0 0 (lb_A G)) (F0 m 95 ls []) := by
  have hx := X.1
  have hb := X.2.1
  intro x2 σ H locs ls h hW hl
  have h : (if x2 ≤ 0 then f_X8_village_110 x2 σ else (f_X7_become 1 17 σ).bind (fun s107 => f_X8_village_110 x2 s107)) = some qr := h
  refine lv_iload_n hx hb dX8_village_95 rfl (lv_at hl 1 rfl) ?_
  refine lv_if_le (tgt := 110) hx hb dX8_village_96 (by decide) (fun c96 => ?_) (fun c96 => ?_)
  · have h := (if_pos c96).symm.trans h
    exact w_X8_village_110 X x2 σ _ _ _ h hW (lv_sub hl [0, 1] rfl)
  · have h := (if_neg c96).symm.trans h
    refine lv_aload_n hx hb dX8_village_99 rfl (lv_at hl 0 rfl) ?_
    refine rg_X8_10 X hW dX8_village_100 ?_
    refine lv_aload_n hx hb dX8_village_103 rfl (lv_at hl 0 rfl) ?_
    refine rg_X8_16 X hW dX8_village_104 ?_
    obtain ⟨s107, e107, h⟩ := lb_bind h
    refine rc_X8_67 X hW lb_V1 lb_V17 e107 ⟨⟨rfl, rfl⟩, Nat.le_of_ble_eq_true rfl, Nat.le_of_ble_eq_true rfl⟩ hl.1 (Nat.le_of_ble_eq_true rfl) dX8_village_107 ⟨Nat.zero_le _, Nat.zero_le _⟩ (fun H locs hW => ?_)
    exact w_X8_village_110 X x2 s107 _ _ _ h hW (lv_sub hl [0, 1] rfl)
def f_X8_village_76 (kc35 : Int32 → Int32 → lb_Mem → Option (Int32 × lb_Mem)) (x3 : Int32) (σ : lb_Mem) (y0 : Int32) : Option (Int32 × lb_Mem) := (f_X4_lengthAt σ x3).bind (fun q84 => lb_let ((x3 + (if (1 : Int32) < q84 then q84 else (1 : Int32)))) (fun v91 : Int32 => kc35 y0 v91 σ))
set_option maxRecDepth 20000 in
set_option maxHeartbeats 4000000 in
theorem w_X8_village_76 {p : Program} {l : Launch} {e : Env} {s : State} {m : MethodId} {args : Array Value} {below : List Frame} {meth : Method} {c : Code} {G : lb_G} {qr : (Int32 × lb_Mem)} (X : lb_C G p s m args meth c cX8_village 4 RX8 (some .int)) {kc35 : Int32 → Int32 → lb_Mem → Option (Int32 × lb_Mem)} (hc35 : ∀ (x2 : Int32) (x3 : Int32) (σ : lb_Mem) (H : Heap) (locs : List Loc) (ls : Array Slot), kc35 x2 x3 σ = some qr → lb_W G s σ H locs → lv_has ls 4 [(0, .ref (lb_ad G 0)), (2, .int x2), (3, .int x3)] → W p l e rmX8_village s m args below meth c H locs 0 0 (MQ below (lb_QI G qr.1 qr.2) args s 0 0 (lb_A G)) (F0 m 35 ls [])) : ∀ (x3 : Int32) (σ : lb_Mem) (y0 : Int32) (H : Heap) (locs : List Loc) (ls : Array Slot), f_X8_village_76 kc35 x3 σ y0 = some qr → lb_W G s σ H locs → lv_has ls 4 [(0, .ref (lb_ad G 0)), (3, .int x3)] → W p l e rmX8_village s m args below meth c H locs 0 0 (MQ below (lb_QI G qr.1 qr.2) args s 0 0 (lb_A G)) (F0 m 76 ls [.int y0]) := by
  have hx := X.1
  have hb := X.2.1
  intro x3 σ y0 H locs ls h hW hl
  have h : ((f_X4_lengthAt σ x3).bind (fun q84 => lb_let ((x3 + (if (1 : Int32) < q84 then q84 else (1 : Int32)))) (fun v91 : Int32 => kc35 y0 v91 σ))) = some qr := h
  refine lv_istore_n (lv' := [(2, .int y0), (0, .ref (lb_ad G 0)), (3, .int x3)]) hx hb dX8_village_76 rfl hl (by decide) rfl (fun ls hl => ?_)
  refine lv_iload_n hx hb dX8_village_77 rfl (lv_at hl 2 rfl) ?_
  refine lv_iconst (v := 1) hx hb dX8_village_78 rfl ?_
  refine lv_aload_n hx hb dX8_village_79 rfl (lv_at hl 1 rfl) ?_
  refine rg_X8_29 X hW dX8_village_80 ?_
  refine lv_iload_n hx hb dX8_village_83 rfl (lv_at hl 2 rfl) ?_
  obtain ⟨q84, e84, h⟩ := lb_bind h
  refine rc_X8_75 X hW e84 ⟨⟨rfl, rfl⟩, Nat.le_of_ble_eq_true rfl, Nat.le_of_ble_eq_true rfl⟩ hl.1 (Nat.le_of_ble_eq_true rfl) dX8_village_84 ⟨Nat.zero_le _, Nat.zero_le _⟩ (fun H locs hW => ?_)
  refine va_mmax hx hb (by rw [X.2.2.1]; exact hl.1.symm) X.2.2.2.1 (X.2.2.2.2.1 _ qw_454) (X.2.2.2.2.1 _ qw_278) (X.2.2.2.2.1 _ qw_55) (X.2.2.2.2.1 _ qw_279) (Nat.le_of_ble_eq_true rfl) (Nat.le_of_ble_eq_true rfl) (Nat.zero_le _) (Nat.zero_le _) dX8_village_87 ?_
  refine lv_iadd hx hb dX8_village_90 ?_
  refine lv_topi (fun v91 e91 => ?_)
  have h := lb_letI e91 h
  refine lv_istore_n (lv' := [(3, .int v91), (2, .int y0), (0, .ref (lb_ad G 0))]) hx hb dX8_village_91 rfl hl (by decide) rfl (fun ls hl => ?_)
  refine lv_goto (tgt := 35) hx hb dX8_village_92 (by decide) ?_
  exact hc35 y0 v91 σ _ _ _ h hW (lv_sub hl [2, 1, 0] rfl)
def f_X8_village_35 : Nat → Int32 → Int32 → lb_Mem → Option (Int32 × lb_Mem)
  | 0, _, _, _ => none
  | n + 1, x2, x3, σ => if (σ 49 1) ≤ x3 then f_X8_village_95 x2 σ else if x2 < 0 then f_X8_village_95 x2 σ else (f_X4_isObeyed 17 x3 σ).bind (fun q59 => if q59.1 = 0 then f_X8_village_76 (fun (x2 : Int32) (x3 : Int32) (σ : lb_Mem) => f_X8_village_35 n x2 x3 σ) x3 q59.2 ((-2000 : Int32) - x3) else f_X8_village_76 (fun (x2 : Int32) (x3 : Int32) (σ : lb_Mem) => f_X8_village_35 n x2 x3 σ) x3 q59.2 (x2 + (1 : Int32)))
set_option maxRecDepth 20000 in
set_option maxHeartbeats 4000000 in
theorem w_X8_village_35 {p : Program} {l : Launch} {e : Env} {s : State} {m : MethodId} {args : Array Value} {below : List Frame} {meth : Method} {c : Code} {G : lb_G} {qr : (Int32 × lb_Mem)} (X : lb_C G p s m args meth c cX8_village 4 RX8 (some .int)) : ∀ (n : Nat) (x2 : Int32) (x3 : Int32) (σ : lb_Mem) (H : Heap) (locs : List Loc) (ls : Array Slot), f_X8_village_35 n x2 x3 σ = some qr → lb_W G s σ H locs → lv_has ls 4 [(0, .ref (lb_ad G 0)), (2, .int x2), (3, .int x3)] → W p l e rmX8_village s m args below meth c H locs 0 0 (MQ below (lb_QI G qr.1 qr.2) args s 0 0 (lb_A G)) (F0 m 35 ls []) := by
  have hx := X.1
  have hb := X.2.1
  intro n
  induction n with
  | zero => intro x2 x3 σ H locs ls h hW hl; exact absurd h (fun z => by cases z)
  | succ n ih =>
    intro x2 x3 σ H locs ls h hW hl
    have h : (if (σ 49 1) ≤ x3 then f_X8_village_95 x2 σ else if x2 < 0 then f_X8_village_95 x2 σ else (f_X4_isObeyed 17 x3 σ).bind (fun q59 => if q59.1 = 0 then f_X8_village_76 (fun (x2 : Int32) (x3 : Int32) (σ : lb_Mem) => f_X8_village_35 n x2 x3 σ) x3 q59.2 ((-2000 : Int32) - x3) else f_X8_village_76 (fun (x2 : Int32) (x3 : Int32) (σ : lb_Mem) => f_X8_village_35 n x2 x3 σ) x3 q59.2 (x2 + (1 : Int32)))) = some qr := h
    refine lv_iload_n hx hb dX8_village_35 rfl (lv_at hl 2 rfl) ?_
    refine lv_aload_n hx hb dX8_village_36 rfl (lv_at hl 0 rfl) ?_
    refine rg_X8_29 X hW dX8_village_37 ?_
    refine rg_X8_48 X hW dX8_village_40 ?_
    refine lv_icmp_ge (tgt := 95) hx hb dX8_village_43 (by decide) (fun c43 => ?_) (fun c43 => ?_)
    · have h := (if_pos c43).symm.trans h
      exact w_X8_village_95 X x2 σ _ _ _ h hW (lv_sub hl [0, 1] rfl)
    · have h := (if_neg c43).symm.trans h
      refine lv_iload_n hx hb dX8_village_46 rfl (lv_at hl 1 rfl) ?_
      refine lv_if_lt (tgt := 95) hx hb dX8_village_47 (by decide) (fun c47 => ?_) (fun c47 => ?_)
      · have h := (if_pos c47).symm.trans h
        exact w_X8_village_95 X x2 σ _ _ _ h hW (lv_sub hl [0, 1] rfl)
      · have h := (if_neg c47).symm.trans h
        refine lv_aload_n hx hb dX8_village_50 rfl (lv_at hl 0 rfl) ?_
        refine rg_X8_29 X hW dX8_village_51 ?_
        refine lv_iload_n hx hb dX8_village_54 rfl (lv_at hl 2 rfl) ?_
        refine lv_aload_n hx hb dX8_village_55 rfl (lv_at hl 0 rfl) ?_
        refine rg_X8_16 X hW dX8_village_56 ?_
        obtain ⟨q59, e59, h⟩ := lb_bind h
        refine rc_X8_71 X hW lb_V17 e59 ⟨⟨rfl, rfl⟩, Nat.le_of_ble_eq_true rfl, Nat.le_of_ble_eq_true rfl⟩ hl.1 (Nat.le_of_ble_eq_true rfl) dX8_village_59 ⟨Nat.zero_le _, Nat.zero_le _⟩ (fun H locs hW => ?_)
        refine lv_if_eq (tgt := 71) hx hb dX8_village_62 (by decide) (fun c62 => ?_) (fun c62 => ?_)
        · have h := (if_pos c62).symm.trans h
          refine lv_sipush (v := -2000) hx hb dX8_village_71 rfl ?_
          refine lv_iload_n hx hb dX8_village_74 rfl (lv_at hl 2 rfl) ?_
          refine lv_isub hx hb dX8_village_75 ?_
          exact w_X8_village_76 X ih x3 q59.2 ((-2000 : Int32) - x3) _ _ _ h hW (lv_sub hl [0, 2] rfl)
        · have h := (if_neg c62).symm.trans h
          refine lv_iload_n hx hb dX8_village_65 rfl (lv_at hl 1 rfl) ?_
          refine lv_iconst (v := 1) hx hb dX8_village_66 rfl ?_
          refine lv_iadd hx hb dX8_village_67 ?_
          refine lv_goto (tgt := 76) hx hb dX8_village_68 (by decide) ?_
          exact w_X8_village_76 X ih x3 q59.2 (x2 + (1 : Int32)) _ _ _ h hW (lv_sub hl [0, 2] rfl)
def f_X8_village_21 (σ : lb_Mem) (y0 : Int32) : Option (Int32 × lb_Mem) := (f_X7_become 17 1 σ).bind (fun s30 => f_X8_village_35 lb_N y0 (0 : Int32) s30)
set_option maxRecDepth 20000 in
set_option maxHeartbeats 4000000 in
theorem w_X8_village_21 {p : Program} {l : Launch} {e : Env} {s : State} {m : MethodId} {args : Array Value} {below : List Frame} {meth : Method} {c : Code} {G : lb_G} {qr : (Int32 × lb_Mem)} (X : lb_C G p s m args meth c cX8_village 4 RX8 (some .int)) : ∀ (σ : lb_Mem) (y0 : Int32) (H : Heap) (locs : List Loc) (ls : Array Slot), f_X8_village_21 σ y0 = some qr → lb_W G s σ H locs → lv_has ls 4 [(0, .ref (lb_ad G 0))] → W p l e rmX8_village s m args below meth c H locs 0 0 (MQ below (lb_QI G qr.1 qr.2) args s 0 0 (lb_A G)) (F0 m 21 ls [.int y0]) := by
  have hx := X.1
  have hb := X.2.1
  intro σ y0 H locs ls h hW hl
  have h : ((f_X7_become 17 1 σ).bind (fun s30 => f_X8_village_35 lb_N y0 (0 : Int32) s30)) = some qr := h
  refine lv_istore_n (lv' := [(2, .int y0), (0, .ref (lb_ad G 0))]) hx hb dX8_village_21 rfl hl (by decide) rfl (fun ls hl => ?_)
  refine lv_aload_n hx hb dX8_village_22 rfl (lv_at hl 1 rfl) ?_
  refine rg_X8_16 X hW dX8_village_23 ?_
  refine lv_aload_n hx hb dX8_village_26 rfl (lv_at hl 1 rfl) ?_
  refine rg_X8_10 X hW dX8_village_27 ?_
  obtain ⟨s30, e30, h⟩ := lb_bind h
  refine rc_X8_67 X hW lb_V17 lb_V1 e30 ⟨⟨rfl, rfl⟩, Nat.le_of_ble_eq_true rfl, Nat.le_of_ble_eq_true rfl⟩ hl.1 (Nat.le_of_ble_eq_true rfl) dX8_village_30 ⟨Nat.zero_le _, Nat.zero_le _⟩ (fun H locs hW => ?_)
  refine lv_iconst (v := 0) hx hb dX8_village_33 rfl ?_
  refine lv_istore_n (lv' := [(3, .int (0 : Int32)), (2, .int y0), (0, .ref (lb_ad G 0))]) hx hb dX8_village_34 rfl hl (by decide) rfl (fun ls hl => ?_)
  exact w_X8_village_35 X lb_N y0 (0 : Int32) s30 _ _ _ h hW (lv_sub hl [2, 1, 0] rfl)
def f_X8_village (σ : lb_Mem) : Option (Int32 × lb_Mem) := (f_X4_wrongPlace σ).bind (fun q4 => if 0 ≤ q4 then f_X8_village_21 σ ((-1000 : Int32) - q4) else f_X8_village_21 σ (0 : Int32))
set_option maxRecDepth 20000 in
set_option maxHeartbeats 4000000 in
theorem m_X8_village (l : Launch) (G : lb_G) (σ : lb_Mem) (qr : (Int32 × lb_Mem)) (h : f_X8_village σ = some qr) : lb_M l yX8_village cX8_village 4 (some .int) rmX8_village [.ref (lb_ad G 0)] G σ (lb_QI G qr.1 qr.2) := by
  refine lb_start RX8 (by decide +kernel) rfl (Nat.le_of_ble_eq_true rfl) (fun p e s m below meth c X hW ls hl => ?_)
  have hx := X.1
  have hb := X.2.1
  have hl : lv_has ls 4 [(0, .ref (lb_ad G 0))] := hl
  have h : ((f_X4_wrongPlace σ).bind (fun q4 => if 0 ≤ q4 then f_X8_village_21 σ ((-1000 : Int32) - q4) else f_X8_village_21 σ (0 : Int32))) = some qr := h
  skip
  refine lv_aload_n hx hb dX8_village_0 rfl (lv_at hl 0 rfl) ?_
  refine rg_X8_29 X hW dX8_village_1 ?_
  obtain ⟨q4, e4, h⟩ := lb_bind h
  refine rc_X8_63 X hW e4 ⟨⟨rfl, rfl⟩, Nat.le_of_ble_eq_true rfl, Nat.le_of_ble_eq_true rfl⟩ hl.1 (Nat.le_of_ble_eq_true rfl) dX8_village_4 ⟨Nat.zero_le _, Nat.zero_le _⟩ (fun H locs hW => ?_)
  refine lv_istore_n (lv' := [(1, .int q4), (0, .ref (lb_ad G 0))]) hx hb dX8_village_7 rfl hl (by decide) rfl (fun ls hl => ?_)
  refine lv_iload_n hx hb dX8_village_8 rfl (lv_at hl 0 rfl) ?_
  refine lv_if_ge (tgt := 16) hx hb dX8_village_9 (by decide) (fun c9 => ?_) (fun c9 => ?_)
  · have h := (if_pos c9).symm.trans h
    refine lv_sipush (v := -1000) hx hb dX8_village_16 rfl ?_
    refine lv_iload_n hx hb dX8_village_19 rfl (lv_at hl 0 rfl) ?_
    refine lv_isub hx hb dX8_village_20 ?_
    exact w_X8_village_21 X σ ((-1000 : Int32) - q4) _ _ _ h hW (lv_sub hl [1] rfl)
  · have h := (if_neg c9).symm.trans h
    refine lv_iconst (v := 0) hx hb dX8_village_12 rfl ?_
    refine lv_goto (tgt := 21) hx hb dX8_village_13 (by decide) ?_
    exact w_X8_village_21 X σ (0 : Int32) _ _ _ h hW (lv_sub hl [1] rfl)
theorem rc_X8_232 {p : Program} {l : Launch} {e : Env} {R : Room} {s : State} {m : MethodId} {args : Array Value} {below : List Frame} {meth : Method} {c : Code} {H : Heap} {locs : List Loc} {cells slots : Nat} {Q : State → Prop} {cc : ByteArray} {pc nL : Nat} {ls : Array Slot} {rest : List Value} {G : lb_G} {σ : lb_Mem} {ret : Option FieldType} (X : lb_C G p s m args meth c cc nL RX8 ret) (hW : lb_W G s σ H locs) {b0 : Nat} (hb0 : lb_V b0) (x1 : Int32) (hR : lb_room rmX7_hasPot R 2) (hls : ls.size = nL) (hrest : (rest.map fun v => v.category).sum ≤ 8) (d : decode cc pc = .ok (.invokevirtual 232, 3)) (hcap : cells ≤ R.cells ∧ slots ≤ R.slots) (kk : ∀ (H1 : Heap) (locs1 : List Loc), lb_W G s σ H1 locs1 → W p l e R s m args below meth c H1 locs1 cells slots Q (F0 m (pc + 3) ls (.int (f_X7_hasPot σ b0 x1) :: rest))) : W p l e R s m args below meth c H locs cells slots Q (F0 m pc ls (.int x1 :: .ref (lb_ad G b0) :: rest)) :=
  lb_goI hW (lb_runV (As := [.int x1]) X hW (m_X7_hasPot l G σ hb0 x1 _ rfl) (n := 1) ⟨qw_464, qw_44, qw_382, by decide +kernel⟩ hR qw_380 qw_381 (lb_isV hb0) rfl hls hrest d hcap) kk
abbrev rmX8_potThere : Room := { frames := 1, cells := 0, slots := 0, locals := 21 }
def f_X8_potThere (σ : lb_Mem) (x1 : Int32) : Int32 := if (f_X7_hasPot σ 1 x1) = 0 then (-1 : Int32) else (0 : Int32)
set_option maxRecDepth 20000 in
set_option maxHeartbeats 4000000 in
theorem m_X8_potThere (l : Launch) (G : lb_G) (σ : lb_Mem) (x1 : Int32) (qr : Int32) (h : f_X8_potThere σ x1 = qr) : lb_M l yX8_potThere cX8_potThere 2 (some .int) rmX8_potThere [.ref (lb_ad G 0), .int x1] G σ (lb_QI G qr σ) := by
  refine lb_start RX8 (by decide +kernel) rfl (Nat.le_of_ble_eq_true rfl) (fun p e s m below meth c X hW ls hl => ?_)
  have hx := X.1
  have hb := X.2.1
  have hl : lv_has ls 2 [(0, .ref (lb_ad G 0)), (1, .int x1)] := hl
  have h : (if (f_X7_hasPot σ 1 x1) = 0 then (-1 : Int32) else (0 : Int32)) = qr := h
  skip
  refine lv_aload_n hx hb dX8_potThere_0 rfl (lv_at hl 0 rfl) ?_
  refine rg_X8_10 X hW dX8_potThere_1 ?_
  refine lv_iload_n hx hb dX8_potThere_4 rfl (lv_at hl 1 rfl) ?_
  refine rc_X8_232 X hW lb_V1 x1 ⟨⟨rfl, rfl⟩, Nat.le_of_ble_eq_true rfl, Nat.le_of_ble_eq_true rfl⟩ hl.1 (Nat.le_of_ble_eq_true rfl) dX8_potThere_5 ⟨Nat.zero_le _, Nat.zero_le _⟩ (fun H locs hW => ?_)
  refine lv_if_eq (tgt := 15) hx hb dX8_potThere_8 (by decide) (fun c8 => ?_) (fun c8 => ?_)
  · have h := (if_pos c8).symm.trans h
    refine lv_iconst (v := -1) hx hb dX8_potThere_15 rfl ?_
    subst h
    exact lb_iret X hW dX8_potThere_16
  · have h := (if_neg c8).symm.trans h
    refine lv_iconst (v := 0) hx hb dX8_potThere_11 rfl ?_
    refine lv_goto (tgt := 16) hx hb dX8_potThere_12 (by decide) ?_
    subst h
    exact lb_iret X hW dX8_potThere_16
abbrev rmX8_known : Room := { frames := 0, cells := 0, slots := 0, locals := 0 }
def f_X8_known (x0 : Int32) (x1 : Int32) : Int32 := if x0 < 0 then (-2 : Int32) else if x0 ≤ x1 then (0 : Int32) else (-2 : Int32)
set_option maxRecDepth 20000 in
set_option maxHeartbeats 4000000 in
theorem m_X8_known (l : Launch) (G : lb_G) (σ : lb_Mem) (x0 : Int32) (x1 : Int32) (qr : Int32) (h : f_X8_known x0 x1 = qr) : lb_M l yX8_known cX8_known 2 (some .int) rmX8_known [.int x0, .int x1] G σ (lb_QI G qr σ) := by
  refine lb_start RX8 (by decide +kernel) rfl (Nat.le_of_ble_eq_true rfl) (fun p e s m below meth c X hW ls hl => ?_)
  have hx := X.1
  have hb := X.2.1
  have hl : lv_has ls 2 [(0, .int x0), (1, .int x1)] := hl
  have h : (if x0 < 0 then (-2 : Int32) else if x0 ≤ x1 then (0 : Int32) else (-2 : Int32)) = qr := h
  skip
  refine lv_iload_n hx hb dX8_known_0 rfl (lv_at hl 0 rfl) ?_
  refine lv_if_lt (tgt := 9) hx hb dX8_known_1 (by decide) (fun c1 => ?_) (fun c1 => ?_)
  · have h := (if_pos c1).symm.trans h
    refine lv_bipush (v := -2) hx hb dX8_known_9 rfl ?_
    refine lv_goto (tgt := 15) hx hb dX8_known_11 (by decide) ?_
    subst h
    exact lb_iret X hW dX8_known_15
  · have h := (if_neg c1).symm.trans h
    refine lv_iload_n hx hb dX8_known_4 rfl (lv_at hl 0 rfl) ?_
    refine lv_iload_n hx hb dX8_known_5 rfl (lv_at hl 1 rfl) ?_
    refine lv_icmp_le (tgt := 14) hx hb dX8_known_6 (by decide) (fun c6 => ?_) (fun c6 => ?_)
    · have h := (if_pos c6).symm.trans h
      refine lv_iconst (v := 0) hx hb dX8_known_14 rfl ?_
      subst h
      exact lb_iret X hW dX8_known_15
    · have h := (if_neg c6).symm.trans h
      refine lv_bipush (v := -2) hx hb dX8_known_9 rfl ?_
      refine lv_goto (tgt := 15) hx hb dX8_known_11 (by decide) ?_
      subst h
      exact lb_iret X hW dX8_known_15
theorem rc_X8_83 {p : Program} {l : Launch} {e : Env} {R : Room} {s : State} {m : MethodId} {args : Array Value} {below : List Frame} {meth : Method} {c : Code} {H : Heap} {locs : List Loc} {cells slots : Nat} {Q : State → Prop} {cc : ByteArray} {pc nL : Nat} {ls : Array Slot} {rest : List Value} {G : lb_G} {σ : lb_Mem} {ret : Option FieldType} (X : lb_C G p s m args meth c cc nL RX8 ret) (hW : lb_W G s σ H locs) (x1 : Int32) (hR : lb_room rmX8_potThere R 2) (hls : ls.size = nL) (hrest : (rest.map fun v => v.category).sum ≤ 8) (d : decode cc pc = .ok (.invokevirtual 83, 3)) (hcap : cells ≤ R.cells ∧ slots ≤ R.slots) (kk : ∀ (H1 : Heap) (locs1 : List Loc), lb_W G s σ H1 locs1 → W p l e R s m args below meth c H1 locs1 cells slots Q (F0 m (pc + 3) ls (.int (f_X8_potThere σ x1) :: rest))) : W p l e R s m args below meth c H locs cells slots Q (F0 m pc ls (.int x1 :: .ref (lb_ad G 0) :: rest)) :=
  lb_goI hW (lb_runV (As := [.int x1]) X hW (m_X8_potThere l G σ x1 _ rfl) (n := 1) ⟨qw_460, qw_43, qw_463, by decide +kernel⟩ hR qw_462 qw_1 lb_is0 rfl hls hrest d hcap) kk
theorem rc_X8_86 {p : Program} {l : Launch} {e : Env} {R : Room} {s : State} {m : MethodId} {args : Array Value} {below : List Frame} {meth : Method} {c : Code} {H : Heap} {locs : List Loc} {cells slots : Nat} {Q : State → Prop} {cc : ByteArray} {pc nL : Nat} {ls : Array Slot} {rest : List Value} {G : lb_G} {σ : lb_Mem} {ret : Option FieldType} (X : lb_C G p s m args meth c cc nL RX8 ret) (hW : lb_W G s σ H locs) (x0 : Int32) (x1 : Int32) (hR : lb_room rmX8_known R 2) (hls : ls.size = nL) (hrest : (rest.map fun v => v.category).sum ≤ 8) (d : decode cc pc = .ok (.invokestatic 86, 3)) (hcap : cells ≤ R.cells ∧ slots ≤ R.slots) (kk : ∀ (H1 : Heap) (locs1 : List Loc), lb_W G s σ H1 locs1 → W p l e R s m args below meth c H1 locs1 cells slots Q (F0 m (pc + 3) ls (.int (f_X8_known x0 x1) :: rest))) : W p l e R s m args below meth c H locs cells slots Q (F0 m pc ls (.int x1 :: .int x0 :: rest)) :=
  lb_goI hW (lb_runS (As := [.int x0, .int x1]) X hW (m_X8_known l G σ x0 x1 _ rfl) (n := 2) ⟨qw_465, qw_43, qw_467, by decide +kernel⟩ hR qw_466 rfl hls hrest d hcap) kk
abbrev rmX8_pot : Room := { frames := 2, cells := 0, slots := 0, locals := 42 }
def f_X8_pot (x1 : Int32) (x2 : Int32) (σ : lb_Mem) : Option (Int32 × lb_Mem) := lb_let ((f_X8_first (f_X8_potThere σ x1) (f_X8_known x2 (5 : Int32)))) (fun v13 : Int32 => if v13 = 0 then if x2 = 0 then lb_chk (lb_ix x1 8) (some ((σ 9 x1.toNatClampNeg), σ)) else if x2 = 1 then lb_chk (lb_ix x1 8) (some ((σ 10 x1.toNatClampNeg), σ)) else if x2 = 2 then lb_chk (lb_ix x1 8) (some ((σ 11 x1.toNatClampNeg), σ)) else if x2 = 3 then lb_chk (lb_ix x1 8) (some ((σ 12 x1.toNatClampNeg), σ)) else if x2 = 4 then lb_chk (lb_ix x1 8) (some ((σ 13 x1.toNatClampNeg), σ)) else lb_chk (lb_ix x1 8) (some ((σ 14 x1.toNatClampNeg), σ)) else (f_X8_refuse v13 σ).bind (fun q20 => some (q20.1, q20.2)))
set_option maxRecDepth 20000 in
set_option maxHeartbeats 4000000 in
theorem m_X8_pot (l : Launch) (G : lb_G) (σ : lb_Mem) (x1 : Int32) (x2 : Int32) (qr : (Int32 × lb_Mem)) (h : f_X8_pot x1 x2 σ = some qr) : lb_M l yX8_pot cX8_pot 4 (some .int) rmX8_pot [.ref (lb_ad G 0), .int x1, .int x2] G σ (lb_QI G qr.1 qr.2) := by
  refine lb_start RX8 (by decide +kernel) rfl (Nat.le_of_ble_eq_true rfl) (fun p e s m below meth c X hW ls hl => ?_)
  have hx := X.1
  have hb := X.2.1
  have hl : lv_has ls 4 [(0, .ref (lb_ad G 0)), (1, .int x1), (2, .int x2)] := hl
  have h : (lb_let ((f_X8_first (f_X8_potThere σ x1) (f_X8_known x2 (5 : Int32)))) (fun v13 : Int32 => if v13 = 0 then if x2 = 0 then lb_chk (lb_ix x1 8) (some ((σ 9 x1.toNatClampNeg), σ)) else if x2 = 1 then lb_chk (lb_ix x1 8) (some ((σ 10 x1.toNatClampNeg), σ)) else if x2 = 2 then lb_chk (lb_ix x1 8) (some ((σ 11 x1.toNatClampNeg), σ)) else if x2 = 3 then lb_chk (lb_ix x1 8) (some ((σ 12 x1.toNatClampNeg), σ)) else if x2 = 4 then lb_chk (lb_ix x1 8) (some ((σ 13 x1.toNatClampNeg), σ)) else lb_chk (lb_ix x1 8) (some ((σ 14 x1.toNatClampNeg), σ)) else (f_X8_refuse v13 σ).bind (fun q20 => some (q20.1, q20.2)))) = some qr := h
  skip
  refine lv_aload_n hx hb dX8_pot_0 rfl (lv_at hl 0 rfl) ?_
  refine lv_iload_n hx hb dX8_pot_1 rfl (lv_at hl 1 rfl) ?_
  refine rc_X8_83 X hW x1 ⟨⟨rfl, rfl⟩, Nat.le_of_ble_eq_true rfl, Nat.le_of_ble_eq_true rfl⟩ hl.1 (Nat.le_of_ble_eq_true rfl) dX8_pot_2 ⟨Nat.zero_le _, Nat.zero_le _⟩ (fun H locs hW => ?_)
  refine lv_iload_n hx hb dX8_pot_5 rfl (lv_at hl 2 rfl) ?_
  refine lv_iconst (v := 5) hx hb dX8_pot_6 rfl ?_
  refine rc_X8_86 X hW x2 (5 : Int32) ⟨⟨rfl, rfl⟩, Nat.le_of_ble_eq_true rfl, Nat.le_of_ble_eq_true rfl⟩ hl.1 (Nat.le_of_ble_eq_true rfl) dX8_pot_7 ⟨Nat.zero_le _, Nat.zero_le _⟩ (fun H locs hW => ?_)
  refine rc_X8_51 X hW (f_X8_potThere σ x1) (f_X8_known x2 (5 : Int32)) ⟨⟨rfl, rfl⟩, Nat.le_of_ble_eq_true rfl, Nat.le_of_ble_eq_true rfl⟩ hl.1 (Nat.le_of_ble_eq_true rfl) dX8_pot_10 ⟨Nat.zero_le _, Nat.zero_le _⟩ (fun H locs hW => ?_)
  refine lv_topi (fun v13 e13 => ?_)
  have h := lb_letI e13 h
  refine lv_istore_n (lv' := [(3, .int v13), (0, .ref (lb_ad G 0)), (1, .int x1), (2, .int x2)]) hx hb dX8_pot_13 rfl hl (by decide) rfl (fun ls hl => ?_)
  refine lv_iload_n hx hb dX8_pot_14 rfl (lv_at hl 0 rfl) ?_
  refine lv_if_eq (tgt := 24) hx hb dX8_pot_15 (by decide) (fun c15 => ?_) (fun c15 => ?_)
  · have h := (if_pos c15).symm.trans h
    refine lv_iload_n hx hb dX8_pot_24 rfl (lv_at hl 3 rfl) ?_
    by_cases c25_0 : x2 = 0
    · have h := (if_pos c25_0).symm.trans h
      refine lv_tableIn (tgt := 60) hx hb dX8_pot_25 (by rw [c25_0]; decide) (by rw [c25_0]; decide) (off := 35) (by rw [c25_0]; rfl) (by decide) ?_
      refine lv_aload_n hx hb dX8_pot_60 rfl (lv_at hl 1 rfl) ?_
      refine rg_X8_10 X hW dX8_pot_61 ?_
      refine rg_X8_89 (k := 9) X hW lb_V1 rfl dX8_pot_64 ?_
      refine lv_iload_n hx hb dX8_pot_67 rfl (lv_at hl 2 rfl) ?_
      obtain ⟨i68, h⟩ := lb_chk_in h
      refine lb_ild X hW (show lb_ar 9 = 7 + 1 from rfl) i68 dX8_pot_68 ?_
      obtain rfl := Option.some.inj h
      exact lb_iret X hW dX8_pot_69
    have h := (if_neg c25_0).symm.trans h
    by_cases c25_1 : x2 = 1
    · have h := (if_pos c25_1).symm.trans h
      refine lv_tableIn (tgt := 70) hx hb dX8_pot_25 (by rw [c25_1]; decide) (by rw [c25_1]; decide) (off := 45) (by rw [c25_1]; rfl) (by decide) ?_
      refine lv_aload_n hx hb dX8_pot_70 rfl (lv_at hl 1 rfl) ?_
      refine rg_X8_10 X hW dX8_pot_71 ?_
      refine rg_X8_92 (k := 10) X hW lb_V1 rfl dX8_pot_74 ?_
      refine lv_iload_n hx hb dX8_pot_77 rfl (lv_at hl 2 rfl) ?_
      obtain ⟨i78, h⟩ := lb_chk_in h
      refine lb_ild X hW (show lb_ar 10 = 7 + 1 from rfl) i78 dX8_pot_78 ?_
      obtain rfl := Option.some.inj h
      exact lb_iret X hW dX8_pot_79
    have h := (if_neg c25_1).symm.trans h
    by_cases c25_2 : x2 = 2
    · have h := (if_pos c25_2).symm.trans h
      refine lv_tableIn (tgt := 80) hx hb dX8_pot_25 (by rw [c25_2]; decide) (by rw [c25_2]; decide) (off := 55) (by rw [c25_2]; rfl) (by decide) ?_
      refine lv_aload_n hx hb dX8_pot_80 rfl (lv_at hl 1 rfl) ?_
      refine rg_X8_10 X hW dX8_pot_81 ?_
      refine rg_X8_95 (k := 11) X hW lb_V1 rfl dX8_pot_84 ?_
      refine lv_iload_n hx hb dX8_pot_87 rfl (lv_at hl 2 rfl) ?_
      obtain ⟨i88, h⟩ := lb_chk_in h
      refine lb_ild X hW (show lb_ar 11 = 7 + 1 from rfl) i88 dX8_pot_88 ?_
      obtain rfl := Option.some.inj h
      exact lb_iret X hW dX8_pot_89
    have h := (if_neg c25_2).symm.trans h
    by_cases c25_3 : x2 = 3
    · have h := (if_pos c25_3).symm.trans h
      refine lv_tableIn (tgt := 90) hx hb dX8_pot_25 (by rw [c25_3]; decide) (by rw [c25_3]; decide) (off := 65) (by rw [c25_3]; rfl) (by decide) ?_
      refine lv_aload_n hx hb dX8_pot_90 rfl (lv_at hl 1 rfl) ?_
      refine rg_X8_10 X hW dX8_pot_91 ?_
      refine rg_X8_98 (k := 12) X hW lb_V1 rfl dX8_pot_94 ?_
      refine lv_iload_n hx hb dX8_pot_97 rfl (lv_at hl 2 rfl) ?_
      obtain ⟨i98, h⟩ := lb_chk_in h
      refine lb_ild X hW (show lb_ar 12 = 7 + 1 from rfl) i98 dX8_pot_98 ?_
      obtain rfl := Option.some.inj h
      exact lb_iret X hW dX8_pot_99
    have h := (if_neg c25_3).symm.trans h
    by_cases c25_4 : x2 = 4
    · have h := (if_pos c25_4).symm.trans h
      refine lv_tableIn (tgt := 100) hx hb dX8_pot_25 (by rw [c25_4]; decide) (by rw [c25_4]; decide) (off := 75) (by rw [c25_4]; rfl) (by decide) ?_
      refine lv_aload_n hx hb dX8_pot_100 rfl (lv_at hl 1 rfl) ?_
      refine rg_X8_10 X hW dX8_pot_101 ?_
      refine rg_X8_101 (k := 13) X hW lb_V1 rfl dX8_pot_104 ?_
      refine lv_iload_n hx hb dX8_pot_107 rfl (lv_at hl 2 rfl) ?_
      obtain ⟨i108, h⟩ := lb_chk_in h
      refine lb_ild X hW (show lb_ar 13 = 7 + 1 from rfl) i108 dX8_pot_108 ?_
      obtain rfl := Option.some.inj h
      exact lb_iret X hW dX8_pot_109
    have h := (if_neg c25_4).symm.trans h
    refine lb_tswD (tgt := 110) (lb_kn_cons c25_0 (lb_kn_cons c25_1 (lb_kn_cons c25_2 (lb_kn_cons c25_3 (lb_kn_cons c25_4 lb_kn_nil))))) hx hb dX8_pot_25 (by decide) (by decide) (by decide) (by decide) (by decide) ?_
    refine lv_aload_n hx hb dX8_pot_110 rfl (lv_at hl 1 rfl) ?_
    refine rg_X8_10 X hW dX8_pot_111 ?_
    refine rg_X8_104 (k := 14) X hW lb_V1 rfl dX8_pot_114 ?_
    refine lv_iload_n hx hb dX8_pot_117 rfl (lv_at hl 2 rfl) ?_
    obtain ⟨i118, h⟩ := lb_chk_in h
    refine lb_ild X hW (show lb_ar 14 = 7 + 1 from rfl) i118 dX8_pot_118 ?_
    obtain rfl := Option.some.inj h
    exact lb_iret X hW dX8_pot_119
  · have h := (if_neg c15).symm.trans h
    refine lv_aload_n hx hb dX8_pot_18 rfl (lv_at hl 1 rfl) ?_
    refine lv_iload_n hx hb dX8_pot_19 rfl (lv_at hl 0 rfl) ?_
    obtain ⟨q20, e20, h⟩ := lb_bind h
    refine rc_X8_55 X hW e20 ⟨⟨rfl, rfl⟩, Nat.le_of_ble_eq_true rfl, Nat.le_of_ble_eq_true rfl⟩ hl.1 (Nat.le_of_ble_eq_true rfl) dX8_pot_20 ⟨Nat.zero_le _, Nat.zero_le _⟩ (fun H locs hW => ?_)
    obtain rfl := Option.some.inj h
    exact lb_iret X hW dX8_pot_23
theorem rc_X8_250 {p : Program} {l : Launch} {e : Env} {R : Room} {s : State} {m : MethodId} {args : Array Value} {below : List Frame} {meth : Method} {c : Code} {H : Heap} {locs : List Loc} {cells slots : Nat} {Q : State → Prop} {cc : ByteArray} {pc nL : Nat} {ls : Array Slot} {rest : List Value} {G : lb_G} {σ : lb_Mem} {ret : Option FieldType} (X : lb_C G p s m args meth c cc nL RX8 ret) (hW : lb_W G s σ H locs) {b0 : Nat} (hb0 : lb_V b0) (x1 : Int32) (hR : lb_room rmX7_hasPerson R 2) (hls : ls.size = nL) (hrest : (rest.map fun v => v.category).sum ≤ 8) (d : decode cc pc = .ok (.invokevirtual 250, 3)) (hcap : cells ≤ R.cells ∧ slots ≤ R.slots) (kk : ∀ (H1 : Heap) (locs1 : List Loc), lb_W G s σ H1 locs1 → W p l e R s m args below meth c H1 locs1 cells slots Q (F0 m (pc + 3) ls (.int (f_X7_hasPerson σ b0 x1) :: rest))) : W p l e R s m args below meth c H locs cells slots Q (F0 m pc ls (.int x1 :: .ref (lb_ad G b0) :: rest)) :=
  lb_goI hW (lb_runV (As := [.int x1]) X hW (m_X7_hasPerson l G σ hb0 x1 _ rfl) (n := 1) ⟨qw_476, qw_44, qw_374, by decide +kernel⟩ hR qw_372 qw_373 (lb_isV hb0) rfl hls hrest d hcap) kk
abbrev rmX8_personThere : Room := { frames := 1, cells := 0, slots := 0, locals := 21 }
def f_X8_personThere (σ : lb_Mem) (x1 : Int32) : Int32 := if (f_X7_hasPerson σ 1 x1) = 0 then (-1 : Int32) else (0 : Int32)
set_option maxRecDepth 20000 in
set_option maxHeartbeats 4000000 in
theorem m_X8_personThere (l : Launch) (G : lb_G) (σ : lb_Mem) (x1 : Int32) (qr : Int32) (h : f_X8_personThere σ x1 = qr) : lb_M l yX8_personThere cX8_personThere 2 (some .int) rmX8_personThere [.ref (lb_ad G 0), .int x1] G σ (lb_QI G qr σ) := by
  refine lb_start RX8 (by decide +kernel) rfl (Nat.le_of_ble_eq_true rfl) (fun p e s m below meth c X hW ls hl => ?_)
  have hx := X.1
  have hb := X.2.1
  have hl : lv_has ls 2 [(0, .ref (lb_ad G 0)), (1, .int x1)] := hl
  have h : (if (f_X7_hasPerson σ 1 x1) = 0 then (-1 : Int32) else (0 : Int32)) = qr := h
  skip
  refine lv_aload_n hx hb dX8_personThere_0 rfl (lv_at hl 0 rfl) ?_
  refine rg_X8_10 X hW dX8_personThere_1 ?_
  refine lv_iload_n hx hb dX8_personThere_4 rfl (lv_at hl 1 rfl) ?_
  refine rc_X8_250 X hW lb_V1 x1 ⟨⟨rfl, rfl⟩, Nat.le_of_ble_eq_true rfl, Nat.le_of_ble_eq_true rfl⟩ hl.1 (Nat.le_of_ble_eq_true rfl) dX8_personThere_5 ⟨Nat.zero_le _, Nat.zero_le _⟩ (fun H locs hW => ?_)
  refine lv_if_eq (tgt := 15) hx hb dX8_personThere_8 (by decide) (fun c8 => ?_) (fun c8 => ?_)
  · have h := (if_pos c8).symm.trans h
    refine lv_iconst (v := -1) hx hb dX8_personThere_15 rfl ?_
    subst h
    exact lb_iret X hW dX8_personThere_16
  · have h := (if_neg c8).symm.trans h
    refine lv_iconst (v := 0) hx hb dX8_personThere_11 rfl ?_
    refine lv_goto (tgt := 16) hx hb dX8_personThere_12 (by decide) ?_
    subst h
    exact lb_iret X hW dX8_personThere_16
theorem rc_X8_107 {p : Program} {l : Launch} {e : Env} {R : Room} {s : State} {m : MethodId} {args : Array Value} {below : List Frame} {meth : Method} {c : Code} {H : Heap} {locs : List Loc} {cells slots : Nat} {Q : State → Prop} {cc : ByteArray} {pc nL : Nat} {ls : Array Slot} {rest : List Value} {G : lb_G} {σ : lb_Mem} {ret : Option FieldType} (X : lb_C G p s m args meth c cc nL RX8 ret) (hW : lb_W G s σ H locs) (x1 : Int32) (hR : lb_room rmX8_personThere R 2) (hls : ls.size = nL) (hrest : (rest.map fun v => v.category).sum ≤ 8) (d : decode cc pc = .ok (.invokevirtual 107, 3)) (hcap : cells ≤ R.cells ∧ slots ≤ R.slots) (kk : ∀ (H1 : Heap) (locs1 : List Loc), lb_W G s σ H1 locs1 → W p l e R s m args below meth c H1 locs1 cells slots Q (F0 m (pc + 3) ls (.int (f_X8_personThere σ x1) :: rest))) : W p l e R s m args below meth c H locs cells slots Q (F0 m pc ls (.int x1 :: .ref (lb_ad G 0) :: rest)) :=
  lb_goI hW (lb_runV (As := [.int x1]) X hW (m_X8_personThere l G σ x1 _ rfl) (n := 1) ⟨qw_472, qw_43, qw_475, by decide +kernel⟩ hR qw_474 qw_2 lb_is0 rfl hls hrest d hcap) kk
theorem rc_X8_116 {p : Program} {l : Launch} {e : Env} {R : Room} {s : State} {m : MethodId} {args : Array Value} {below : List Frame} {meth : Method} {c : Code} {H : Heap} {locs : List Loc} {cells slots : Nat} {Q : State → Prop} {cc : ByteArray} {pc nL : Nat} {ls : Array Slot} {rest : List Value} {G : lb_G} {σ : lb_Mem} {ret : Option FieldType} (X : lb_C G p s m args meth c cc nL RX8 ret) (hW : lb_W G s σ H locs) {b0 : Nat} (hb0 : lb_V b0) {x1 : Int32} {qr : Int32} (h : f_X7_opened σ b0 x1 = some qr) (hR : lb_room rmX7_opened R 6) (hls : ls.size = nL) (hrest : (rest.map fun v => v.category).sum ≤ 8) (d : decode cc pc = .ok (.invokevirtual 116, 3)) (hcap : cells ≤ R.cells ∧ slots ≤ R.slots) (kk : ∀ (H1 : Heap) (locs1 : List Loc), lb_W G s σ H1 locs1 → W p l e R s m args below meth c H1 locs1 cells slots Q (F0 m (pc + 3) ls (.int qr :: rest))) : W p l e R s m args below meth c H locs cells slots Q (F0 m pc ls (.int x1 :: .ref (lb_ad G b0) :: rest)) :=
  lb_goI hW (lb_runV (As := [.int x1]) X hW (m_X7_opened l G σ hb0 x1 qr h) (n := 1) ⟨qw_477, qw_44, qw_410, by decide +kernel⟩ hR qw_408 qw_409 (lb_isV hb0) rfl hls hrest d hcap) kk
theorem rc_X8_119 {p : Program} {l : Launch} {e : Env} {R : Room} {s : State} {m : MethodId} {args : Array Value} {below : List Frame} {meth : Method} {c : Code} {H : Heap} {locs : List Loc} {cells slots : Nat} {Q : State → Prop} {cc : ByteArray} {pc nL : Nat} {ls : Array Slot} {rest : List Value} {G : lb_G} {σ : lb_Mem} {ret : Option FieldType} (X : lb_C G p s m args meth c cc nL RX8 ret) (hW : lb_W G s σ H locs) {b0 : Nat} (hb0 : lb_V b0) {x1 : Int32} {qr : Int32} (h : f_X7_potsOf σ b0 x1 = some qr) (hR : lb_room rmX7_potsOf R 4) (hls : ls.size = nL) (hrest : (rest.map fun v => v.category).sum ≤ 8) (d : decode cc pc = .ok (.invokevirtual 119, 3)) (hcap : cells ≤ R.cells ∧ slots ≤ R.slots) (kk : ∀ (H1 : Heap) (locs1 : List Loc), lb_W G s σ H1 locs1 → W p l e R s m args below meth c H1 locs1 cells slots Q (F0 m (pc + 3) ls (.int qr :: rest))) : W p l e R s m args below meth c H locs cells slots Q (F0 m pc ls (.int x1 :: .ref (lb_ad G b0) :: rest)) :=
  lb_goI hW (lb_runV (As := [.int x1]) X hW (m_X7_potsOf l G σ hb0 x1 qr h) (n := 1) ⟨qw_478, qw_44, qw_481, by decide +kernel⟩ hR qw_479 qw_480 (lb_isV hb0) rfl hls hrest d hcap) kk
abbrev rmX8_person : Room := { frames := 3, cells := 0, slots := 0, locals := 62 }
def f_X8_person (x1 : Int32) (x2 : Int32) (σ : lb_Mem) : Option (Int32 × lb_Mem) := lb_let ((f_X8_first (f_X8_personThere σ x1) (f_X8_known x2 (3 : Int32)))) (fun v13 : Int32 => if v13 = 0 then if x2 = 0 then lb_chk (lb_ix x1 5) (some ((σ 15 x1.toNatClampNeg), σ)) else if x2 = 1 then lb_chk (lb_ix x1 5) (some ((σ 16 x1.toNatClampNeg), σ)) else if x2 = 2 then (f_X7_opened σ 1 x1).bind (fun q77 => some (q77, σ)) else (f_X7_potsOf σ 1 x1).bind (fun q86 => some (q86, σ)) else (f_X8_refuse v13 σ).bind (fun q20 => some (q20.1, q20.2)))
set_option maxRecDepth 20000 in
set_option maxHeartbeats 4000000 in
theorem m_X8_person (l : Launch) (G : lb_G) (σ : lb_Mem) (x1 : Int32) (x2 : Int32) (qr : (Int32 × lb_Mem)) (h : f_X8_person x1 x2 σ = some qr) : lb_M l yX8_person cX8_person 4 (some .int) rmX8_person [.ref (lb_ad G 0), .int x1, .int x2] G σ (lb_QI G qr.1 qr.2) := by
  refine lb_start RX8 (by decide +kernel) rfl (Nat.le_of_ble_eq_true rfl) (fun p e s m below meth c X hW ls hl => ?_)
  have hx := X.1
  have hb := X.2.1
  have hl : lv_has ls 4 [(0, .ref (lb_ad G 0)), (1, .int x1), (2, .int x2)] := hl
  have h : (lb_let ((f_X8_first (f_X8_personThere σ x1) (f_X8_known x2 (3 : Int32)))) (fun v13 : Int32 => if v13 = 0 then if x2 = 0 then lb_chk (lb_ix x1 5) (some ((σ 15 x1.toNatClampNeg), σ)) else if x2 = 1 then lb_chk (lb_ix x1 5) (some ((σ 16 x1.toNatClampNeg), σ)) else if x2 = 2 then (f_X7_opened σ 1 x1).bind (fun q77 => some (q77, σ)) else (f_X7_potsOf σ 1 x1).bind (fun q86 => some (q86, σ)) else (f_X8_refuse v13 σ).bind (fun q20 => some (q20.1, q20.2)))) = some qr := h
  skip
  refine lv_aload_n hx hb dX8_person_0 rfl (lv_at hl 0 rfl) ?_
  refine lv_iload_n hx hb dX8_person_1 rfl (lv_at hl 1 rfl) ?_
  refine rc_X8_107 X hW x1 ⟨⟨rfl, rfl⟩, Nat.le_of_ble_eq_true rfl, Nat.le_of_ble_eq_true rfl⟩ hl.1 (Nat.le_of_ble_eq_true rfl) dX8_person_2 ⟨Nat.zero_le _, Nat.zero_le _⟩ (fun H locs hW => ?_)
  refine lv_iload_n hx hb dX8_person_5 rfl (lv_at hl 2 rfl) ?_
  refine lv_iconst (v := 3) hx hb dX8_person_6 rfl ?_
  refine rc_X8_86 X hW x2 (3 : Int32) ⟨⟨rfl, rfl⟩, Nat.le_of_ble_eq_true rfl, Nat.le_of_ble_eq_true rfl⟩ hl.1 (Nat.le_of_ble_eq_true rfl) dX8_person_7 ⟨Nat.zero_le _, Nat.zero_le _⟩ (fun H locs hW => ?_)
  refine rc_X8_51 X hW (f_X8_personThere σ x1) (f_X8_known x2 (3 : Int32)) ⟨⟨rfl, rfl⟩, Nat.le_of_ble_eq_true rfl, Nat.le_of_ble_eq_true rfl⟩ hl.1 (Nat.le_of_ble_eq_true rfl) dX8_person_10 ⟨Nat.zero_le _, Nat.zero_le _⟩ (fun H locs hW => ?_)
  refine lv_topi (fun v13 e13 => ?_)
  have h := lb_letI e13 h
  refine lv_istore_n (lv' := [(3, .int v13), (0, .ref (lb_ad G 0)), (1, .int x1), (2, .int x2)]) hx hb dX8_person_13 rfl hl (by decide) rfl (fun ls hl => ?_)
  refine lv_iload_n hx hb dX8_person_14 rfl (lv_at hl 0 rfl) ?_
  refine lv_if_eq (tgt := 24) hx hb dX8_person_15 (by decide) (fun c15 => ?_) (fun c15 => ?_)
  · have h := (if_pos c15).symm.trans h
    refine lv_iload_n hx hb dX8_person_24 rfl (lv_at hl 3 rfl) ?_
    by_cases c25_0 : x2 = 0
    · have h := (if_pos c25_0).symm.trans h
      refine lv_tableIn (tgt := 52) hx hb dX8_person_25 (by rw [c25_0]; decide) (by rw [c25_0]; decide) (off := 27) (by rw [c25_0]; rfl) (by decide) ?_
      refine lv_aload_n hx hb dX8_person_52 rfl (lv_at hl 1 rfl) ?_
      refine rg_X8_10 X hW dX8_person_53 ?_
      refine rg_X8_110 (k := 15) X hW lb_V1 rfl dX8_person_56 ?_
      refine lv_iload_n hx hb dX8_person_59 rfl (lv_at hl 2 rfl) ?_
      obtain ⟨i60, h⟩ := lb_chk_in h
      refine lb_ild X hW (show lb_ar 15 = 4 + 1 from rfl) i60 dX8_person_60 ?_
      obtain rfl := Option.some.inj h
      exact lb_iret X hW dX8_person_61
    have h := (if_neg c25_0).symm.trans h
    by_cases c25_1 : x2 = 1
    · have h := (if_pos c25_1).symm.trans h
      refine lv_tableIn (tgt := 62) hx hb dX8_person_25 (by rw [c25_1]; decide) (by rw [c25_1]; decide) (off := 37) (by rw [c25_1]; rfl) (by decide) ?_
      refine lv_aload_n hx hb dX8_person_62 rfl (lv_at hl 1 rfl) ?_
      refine rg_X8_10 X hW dX8_person_63 ?_
      refine rg_X8_113 (k := 16) X hW lb_V1 rfl dX8_person_66 ?_
      refine lv_iload_n hx hb dX8_person_69 rfl (lv_at hl 2 rfl) ?_
      obtain ⟨i70, h⟩ := lb_chk_in h
      refine lb_ild X hW (show lb_ar 16 = 4 + 1 from rfl) i70 dX8_person_70 ?_
      obtain rfl := Option.some.inj h
      exact lb_iret X hW dX8_person_71
    have h := (if_neg c25_1).symm.trans h
    by_cases c25_2 : x2 = 2
    · have h := (if_pos c25_2).symm.trans h
      refine lv_tableIn (tgt := 72) hx hb dX8_person_25 (by rw [c25_2]; decide) (by rw [c25_2]; decide) (off := 47) (by rw [c25_2]; rfl) (by decide) ?_
      refine lv_aload_n hx hb dX8_person_72 rfl (lv_at hl 1 rfl) ?_
      refine rg_X8_10 X hW dX8_person_73 ?_
      refine lv_iload_n hx hb dX8_person_76 rfl (lv_at hl 2 rfl) ?_
      obtain ⟨q77, e77, h⟩ := lb_bind h
      refine rc_X8_116 X hW lb_V1 e77 ⟨⟨rfl, rfl⟩, Nat.le_of_ble_eq_true rfl, Nat.le_of_ble_eq_true rfl⟩ hl.1 (Nat.le_of_ble_eq_true rfl) dX8_person_77 ⟨Nat.zero_le _, Nat.zero_le _⟩ (fun H locs hW => ?_)
      obtain rfl := Option.some.inj h
      exact lb_iret X hW dX8_person_80
    have h := (if_neg c25_2).symm.trans h
    refine lb_tswD (tgt := 81) (lb_kn_cons c25_0 (lb_kn_cons c25_1 (lb_kn_cons c25_2 lb_kn_nil))) hx hb dX8_person_25 (by decide) (by decide) (by decide) (by decide) (by decide) ?_
    refine lv_aload_n hx hb dX8_person_81 rfl (lv_at hl 1 rfl) ?_
    refine rg_X8_10 X hW dX8_person_82 ?_
    refine lv_iload_n hx hb dX8_person_85 rfl (lv_at hl 2 rfl) ?_
    obtain ⟨q86, e86, h⟩ := lb_bind h
    refine rc_X8_119 X hW lb_V1 e86 ⟨⟨rfl, rfl⟩, Nat.le_of_ble_eq_true rfl, Nat.le_of_ble_eq_true rfl⟩ hl.1 (Nat.le_of_ble_eq_true rfl) dX8_person_86 ⟨Nat.zero_le _, Nat.zero_le _⟩ (fun H locs hW => ?_)
    obtain rfl := Option.some.inj h
    exact lb_iret X hW dX8_person_89
  · have h := (if_neg c15).symm.trans h
    refine lv_aload_n hx hb dX8_person_18 rfl (lv_at hl 1 rfl) ?_
    refine lv_iload_n hx hb dX8_person_19 rfl (lv_at hl 0 rfl) ?_
    obtain ⟨q20, e20, h⟩ := lb_bind h
    refine rc_X8_55 X hW e20 ⟨⟨rfl, rfl⟩, Nat.le_of_ble_eq_true rfl, Nat.le_of_ble_eq_true rfl⟩ hl.1 (Nat.le_of_ble_eq_true rfl) dX8_person_20 ⟨Nat.zero_le _, Nat.zero_le _⟩ (fun H locs hW => ?_)
    obtain rfl := Option.some.inj h
    exact lb_iret X hW dX8_person_23
abbrev rmX8_refuseFar : Room := { frames := 1, cells := 0, slots := 0, locals := 21 }
def f_X8_refuseFar (x1 : Int32) (σ : lb_Mem) : Option (Int32 × lb_Mem) := (f_X8_refuse x1 σ).bind (fun q4 => some (((1000000000 : Int32) - q4.1), q4.2))
set_option maxRecDepth 20000 in
set_option maxHeartbeats 4000000 in
theorem m_X8_refuseFar (l : Launch) (G : lb_G) (σ : lb_Mem) (x1 : Int32) (qr : (Int32 × lb_Mem)) (h : f_X8_refuseFar x1 σ = some qr) : lb_M l yX8_refuseFar cX8_refuseFar 2 (some .int) rmX8_refuseFar [.ref (lb_ad G 0), .int x1] G σ (lb_QI G qr.1 qr.2) := by
  refine lb_start RX8 (by decide +kernel) rfl (Nat.le_of_ble_eq_true rfl) (fun p e s m below meth c X hW ls hl => ?_)
  have hx := X.1
  have hb := X.2.1
  have hl : lv_has ls 2 [(0, .ref (lb_ad G 0)), (1, .int x1)] := hl
  have h : ((f_X8_refuse x1 σ).bind (fun q4 => some (((1000000000 : Int32) - q4.1), q4.2))) = some qr := h
  skip
  refine lv_ldc (v := 1000000000) hx hb X.2.2.2.1 (X.2.2.2.2.1 _ qw_490) dX8_refuseFar_0 ?_
  refine lv_aload_n hx hb dX8_refuseFar_2 rfl (lv_at hl 0 rfl) ?_
  refine lv_iload_n hx hb dX8_refuseFar_3 rfl (lv_at hl 1 rfl) ?_
  obtain ⟨q4, e4, h⟩ := lb_bind h
  refine rc_X8_55 X hW e4 ⟨⟨rfl, rfl⟩, Nat.le_of_ble_eq_true rfl, Nat.le_of_ble_eq_true rfl⟩ hl.1 (Nat.le_of_ble_eq_true rfl) dX8_refuseFar_4 ⟨Nat.zero_le _, Nat.zero_le _⟩ (fun H locs hW => ?_)
  refine lv_isub hx hb dX8_refuseFar_7 ?_
  obtain rfl := Option.some.inj h
  exact lb_iret X hW dX8_refuseFar_8
theorem rc_X8_122 {p : Program} {l : Launch} {e : Env} {R : Room} {s : State} {m : MethodId} {args : Array Value} {below : List Frame} {meth : Method} {c : Code} {H : Heap} {locs : List Loc} {cells slots : Nat} {Q : State → Prop} {cc : ByteArray} {pc nL : Nat} {ls : Array Slot} {rest : List Value} {G : lb_G} {σ : lb_Mem} {ret : Option FieldType} (X : lb_C G p s m args meth c cc nL RX8 ret) (hW : lb_W G s σ H locs) {x1 : Int32} {qr : (Int32 × lb_Mem)} (h : f_X8_refuseFar x1 σ = some qr) (hR : lb_room rmX8_refuseFar R 2) (hls : ls.size = nL) (hrest : (rest.map fun v => v.category).sum ≤ 8) (d : decode cc pc = .ok (.invokevirtual 122, 3)) (hcap : cells ≤ R.cells ∧ slots ≤ R.slots) (kk : ∀ (H1 : Heap) (locs1 : List Loc), lb_W G s qr.2 H1 locs1 → W p l e R s m args below meth c H1 locs1 cells slots Q (F0 m (pc + 3) ls (.int qr.1 :: rest))) : W p l e R s m args below meth c H locs cells slots Q (F0 m pc ls (.int x1 :: .ref (lb_ad G 0) :: rest)) :=
  lb_goI hW (lb_runV (As := [.int x1]) X hW (m_X8_refuseFar l G σ x1 qr h) (n := 1) ⟨qw_486, qw_43, qw_489, by decide +kernel⟩ hR qw_488 qw_3 lb_is0 rfl hls hrest d hcap) kk
theorem rc_X8_125 {p : Program} {l : Launch} {e : Env} {R : Room} {s : State} {m : MethodId} {args : Array Value} {below : List Frame} {meth : Method} {c : Code} {H : Heap} {locs : List Loc} {cells slots : Nat} {Q : State → Prop} {cc : ByteArray} {pc nL : Nat} {ls : Array Slot} {rest : List Value} {G : lb_G} {σ : lb_Mem} {ret : Option FieldType} (X : lb_C G p s m args meth c cc nL RX8 ret) (hW : lb_W G s σ H locs) {b0 : Nat} (hb0 : lb_V b0) {x1 : Int32} {x2 : Int32} {qr : Int32} (h : f_X7_gained σ b0 x1 x2 = some qr) (hR : lb_room rmX7_gained R 5) (hls : ls.size = nL) (hrest : (rest.map fun v => v.category).sum ≤ 8) (d : decode cc pc = .ok (.invokevirtual 125, 3)) (hcap : cells ≤ R.cells ∧ slots ≤ R.slots) (kk : ∀ (H1 : Heap) (locs1 : List Loc), lb_W G s σ H1 locs1 → W p l e R s m args below meth c H1 locs1 cells slots Q (F0 m (pc + 3) ls (.int qr :: rest))) : W p l e R s m args below meth c H locs cells slots Q (F0 m pc ls (.int x2 :: .int x1 :: .ref (lb_ad G b0) :: rest)) :=
  lb_goI hW (lb_runV (As := [.int x1, .int x2]) X hW (m_X7_gained l G σ hb0 x1 x2 qr h) (n := 2) ⟨qw_491, qw_44, qw_425, by decide +kernel⟩ hR qw_423 qw_424 (lb_isV hb0) rfl hls hrest d hcap) kk
abbrev rmX8_gains : Room := { frames := 4, cells := 0, slots := 0, locals := 94 }
def f_X8_gains (x1 : Int32) (x2 : Int32) (σ : lb_Mem) : Option (Int32 × lb_Mem) := lb_let ((f_X8_first (f_X8_potThere σ x1) (f_X8_personThere σ x2))) (fun v13 : Int32 => if v13 = 0 then (f_X7_gained σ 1 x1 x2).bind (fun q32 => some (q32, σ)) else (f_X8_refuseFar v13 σ).bind (fun q20 => some (q20.1, q20.2)))
set_option maxRecDepth 20000 in
set_option maxHeartbeats 4000000 in
theorem m_X8_gains (l : Launch) (G : lb_G) (σ : lb_Mem) (x1 : Int32) (x2 : Int32) (qr : (Int32 × lb_Mem)) (h : f_X8_gains x1 x2 σ = some qr) : lb_M l yX8_gains cX8_gains 4 (some .int) rmX8_gains [.ref (lb_ad G 0), .int x1, .int x2] G σ (lb_QI G qr.1 qr.2) := by
  refine lb_start RX8 (by decide +kernel) rfl (Nat.le_of_ble_eq_true rfl) (fun p e s m below meth c X hW ls hl => ?_)
  have hx := X.1
  have hb := X.2.1
  have hl : lv_has ls 4 [(0, .ref (lb_ad G 0)), (1, .int x1), (2, .int x2)] := hl
  have h : (lb_let ((f_X8_first (f_X8_potThere σ x1) (f_X8_personThere σ x2))) (fun v13 : Int32 => if v13 = 0 then (f_X7_gained σ 1 x1 x2).bind (fun q32 => some (q32, σ)) else (f_X8_refuseFar v13 σ).bind (fun q20 => some (q20.1, q20.2)))) = some qr := h
  skip
  refine lv_aload_n hx hb dX8_gains_0 rfl (lv_at hl 0 rfl) ?_
  refine lv_iload_n hx hb dX8_gains_1 rfl (lv_at hl 1 rfl) ?_
  refine rc_X8_83 X hW x1 ⟨⟨rfl, rfl⟩, Nat.le_of_ble_eq_true rfl, Nat.le_of_ble_eq_true rfl⟩ hl.1 (Nat.le_of_ble_eq_true rfl) dX8_gains_2 ⟨Nat.zero_le _, Nat.zero_le _⟩ (fun H locs hW => ?_)
  refine lv_aload_n hx hb dX8_gains_5 rfl (lv_at hl 0 rfl) ?_
  refine lv_iload_n hx hb dX8_gains_6 rfl (lv_at hl 2 rfl) ?_
  refine rc_X8_107 X hW x2 ⟨⟨rfl, rfl⟩, Nat.le_of_ble_eq_true rfl, Nat.le_of_ble_eq_true rfl⟩ hl.1 (Nat.le_of_ble_eq_true rfl) dX8_gains_7 ⟨Nat.zero_le _, Nat.zero_le _⟩ (fun H locs hW => ?_)
  refine rc_X8_51 X hW (f_X8_potThere σ x1) (f_X8_personThere σ x2) ⟨⟨rfl, rfl⟩, Nat.le_of_ble_eq_true rfl, Nat.le_of_ble_eq_true rfl⟩ hl.1 (Nat.le_of_ble_eq_true rfl) dX8_gains_10 ⟨Nat.zero_le _, Nat.zero_le _⟩ (fun H locs hW => ?_)
  refine lv_topi (fun v13 e13 => ?_)
  have h := lb_letI e13 h
  refine lv_istore_n (lv' := [(3, .int v13), (0, .ref (lb_ad G 0)), (1, .int x1), (2, .int x2)]) hx hb dX8_gains_13 rfl hl (by decide) rfl (fun ls hl => ?_)
  refine lv_iload_n hx hb dX8_gains_14 rfl (lv_at hl 0 rfl) ?_
  refine lv_if_eq (tgt := 26) hx hb dX8_gains_15 (by decide) (fun c15 => ?_) (fun c15 => ?_)
  · have h := (if_pos c15).symm.trans h
    refine lv_aload_n hx hb dX8_gains_26 rfl (lv_at hl 1 rfl) ?_
    refine rg_X8_10 X hW dX8_gains_27 ?_
    refine lv_iload_n hx hb dX8_gains_30 rfl (lv_at hl 2 rfl) ?_
    refine lv_iload_n hx hb dX8_gains_31 rfl (lv_at hl 3 rfl) ?_
    obtain ⟨q32, e32, h⟩ := lb_bind h
    refine rc_X8_125 X hW lb_V1 e32 ⟨⟨rfl, rfl⟩, Nat.le_of_ble_eq_true rfl, Nat.le_of_ble_eq_true rfl⟩ hl.1 (Nat.le_of_ble_eq_true rfl) dX8_gains_32 ⟨Nat.zero_le _, Nat.zero_le _⟩ (fun H locs hW => ?_)
    obtain rfl := Option.some.inj h
    exact lb_iret X hW dX8_gains_35
  · have h := (if_neg c15).symm.trans h
    refine lv_aload_n hx hb dX8_gains_18 rfl (lv_at hl 1 rfl) ?_
    refine lv_iload_n hx hb dX8_gains_19 rfl (lv_at hl 0 rfl) ?_
    obtain ⟨q20, e20, h⟩ := lb_bind h
    refine rc_X8_122 X hW e20 ⟨⟨rfl, rfl⟩, Nat.le_of_ble_eq_true rfl, Nat.le_of_ble_eq_true rfl⟩ hl.1 (Nat.le_of_ble_eq_true rfl) dX8_gains_20 ⟨Nat.zero_le _, Nat.zero_le _⟩ (fun H locs hW => ?_)
    refine lv_goto (tgt := 35) hx hb dX8_gains_23 (by decide) ?_
    obtain rfl := Option.some.inj h
    exact lb_iret X hW dX8_gains_35
theorem rc_X8_128 {p : Program} {l : Launch} {e : Env} {R : Room} {s : State} {m : MethodId} {args : Array Value} {below : List Frame} {meth : Method} {c : Code} {H : Heap} {locs : List Loc} {cells slots : Nat} {Q : State → Prop} {cc : ByteArray} {pc nL : Nat} {ls : Array Slot} {rest : List Value} {G : lb_G} {σ : lb_Mem} {ret : Option FieldType} (X : lb_C G p s m args meth c cc nL RX8 ret) (hW : lb_W G s σ H locs) (x0 : Int32) (hR : lb_room rmX7_isLabel R 1) (hls : ls.size = nL) (hrest : (rest.map fun v => v.category).sum ≤ 8) (d : decode cc pc = .ok (.invokestatic 128, 3)) (hcap : cells ≤ R.cells ∧ slots ≤ R.slots) (kk : ∀ (H1 : Heap) (locs1 : List Loc), lb_W G s σ H1 locs1 → W p l e R s m args below meth c H1 locs1 cells slots Q (F0 m (pc + 3) ls (.int (f_X7_isLabel x0) :: rest))) : W p l e R s m args below meth c H locs cells slots Q (F0 m pc ls (.int x0 :: rest)) :=
  lb_goI hW (lb_runS (As := [.int x0]) X hW (m_X7_isLabel l G σ x0 _ rfl) (n := 1) ⟨qw_496, qw_44, qw_370, by decide +kernel⟩ hR qw_369 rfl hls hrest d hcap) kk
abbrev rmX8_labels : Room := { frames := 2, cells := 0, slots := 0, locals := 42 }
def f_X8_labels_17 (x1 : Int32) (x2 : Int32) (σ : lb_Mem) (y0 : Int32) (y1 : Int32) : Option (Int32 × lb_Mem) := lb_let ((f_X8_first y0 y1)) (fun v20 : Int32 => if v20 = 0 then lb_chk (lb_ix x1 8) (lb_let ((σ 12 x1.toNatClampNeg)) (fun v40 : Int32 => lb_chk (lb_ix x1 8) (lb_let (lb_sto σ 12 x1.toNatClampNeg x2) (fun s51 : lb_Mem => some (v40, s51))))) else (f_X8_refuse v20 σ).bind (fun q27 => some (q27.1, q27.2)))
set_option maxRecDepth 20000 in
set_option maxHeartbeats 4000000 in
theorem w_X8_labels_17 {p : Program} {l : Launch} {e : Env} {s : State} {m : MethodId} {args : Array Value} {below : List Frame} {meth : Method} {c : Code} {G : lb_G} {qr : (Int32 × lb_Mem)} (X : lb_C G p s m args meth c cX8_labels 5 RX8 (some .int)) : ∀ (x1 : Int32) (x2 : Int32) (σ : lb_Mem) (y0 : Int32) (y1 : Int32) (H : Heap) (locs : List Loc) (ls : Array Slot), f_X8_labels_17 x1 x2 σ y0 y1 = some qr → lb_W G s σ H locs → lv_has ls 5 [(0, .ref (lb_ad G 0)), (1, .int x1), (2, .int x2)] → W p l e rmX8_labels s m args below meth c H locs 0 0 (MQ below (lb_QI G qr.1 qr.2) args s 0 0 (lb_A G)) (F0 m 17 ls [.int y1, .int y0]) := by
  have hx := X.1
  have hb := X.2.1
  intro x1 x2 σ y0 y1 H locs ls h hW hl
  have h : (lb_let ((f_X8_first y0 y1)) (fun v20 : Int32 => if v20 = 0 then lb_chk (lb_ix x1 8) (lb_let ((σ 12 x1.toNatClampNeg)) (fun v40 : Int32 => lb_chk (lb_ix x1 8) (lb_let (lb_sto σ 12 x1.toNatClampNeg x2) (fun s51 : lb_Mem => some (v40, s51))))) else (f_X8_refuse v20 σ).bind (fun q27 => some (q27.1, q27.2)))) = some qr := h
  refine rc_X8_51 X hW y0 y1 ⟨⟨rfl, rfl⟩, Nat.le_of_ble_eq_true rfl, Nat.le_of_ble_eq_true rfl⟩ hl.1 (Nat.le_of_ble_eq_true rfl) dX8_labels_17 ⟨Nat.zero_le _, Nat.zero_le _⟩ (fun H locs hW => ?_)
  refine lv_topi (fun v20 e20 => ?_)
  have h := lb_letI e20 h
  refine lv_istore_n (lv' := [(3, .int v20), (0, .ref (lb_ad G 0)), (1, .int x1), (2, .int x2)]) hx hb dX8_labels_20 rfl hl (by decide) rfl (fun ls hl => ?_)
  refine lv_iload_n hx hb dX8_labels_21 rfl (lv_at hl 0 rfl) ?_
  refine lv_if_eq (tgt := 31) hx hb dX8_labels_22 (by decide) (fun c22 => ?_) (fun c22 => ?_)
  · have h := (if_pos c22).symm.trans h
    refine lv_aload_n hx hb dX8_labels_31 rfl (lv_at hl 1 rfl) ?_
    refine rg_X8_10 X hW dX8_labels_32 ?_
    refine rg_X8_98 (k := 12) X hW lb_V1 rfl dX8_labels_35 ?_
    refine lv_iload_n hx hb dX8_labels_38 rfl (lv_at hl 2 rfl) ?_
    obtain ⟨i39, h⟩ := lb_chk_in h
    refine lb_ild X hW (show lb_ar 12 = 7 + 1 from rfl) i39 dX8_labels_39 ?_
    refine lv_topi (fun v40 e40 => ?_)
    have h := lb_letI e40 h
    refine lv_istore (lv' := [(4, .int v40), (3, .int v20), (0, .ref (lb_ad G 0)), (1, .int x1), (2, .int x2)]) hx hb dX8_labels_40 hl (by decide) rfl (fun ls hl => ?_)
    refine lv_aload_n hx hb dX8_labels_42 rfl (lv_at hl 2 rfl) ?_
    refine rg_X8_10 X hW dX8_labels_43 ?_
    refine rg_X8_98 (k := 12) X hW lb_V1 rfl dX8_labels_46 ?_
    refine lv_iload_n hx hb dX8_labels_49 rfl (lv_at hl 3 rfl) ?_
    refine lv_iload_n hx hb dX8_labels_50 rfl (lv_at hl 4 rfl) ?_
    obtain ⟨i51, h⟩ := lb_chk_in h
    refine lb_ist X hW (show lb_ar 12 = 7 + 1 from rfl) i51 dX8_labels_51 (fun H locs hW => ?_)
    obtain ⟨s51, e51⟩ : ∃ z, z = lb_sto σ 12 x1.toNatClampNeg x2 := ⟨_, rfl⟩
    rw [← e51] at hW
    have h := lb_letI e51 h
    refine lv_iload hx hb dX8_labels_52 (lv_at hl 0 rfl) ?_
    obtain rfl := Option.some.inj h
    exact lb_iret X hW dX8_labels_54
  · have h := (if_neg c22).symm.trans h
    refine lv_aload_n hx hb dX8_labels_25 rfl (lv_at hl 1 rfl) ?_
    refine lv_iload_n hx hb dX8_labels_26 rfl (lv_at hl 0 rfl) ?_
    obtain ⟨q27, e27, h⟩ := lb_bind h
    refine rc_X8_55 X hW e27 ⟨⟨rfl, rfl⟩, Nat.le_of_ble_eq_true rfl, Nat.le_of_ble_eq_true rfl⟩ hl.1 (Nat.le_of_ble_eq_true rfl) dX8_labels_27 ⟨Nat.zero_le _, Nat.zero_le _⟩ (fun H locs hW => ?_)
    obtain rfl := Option.some.inj h
    exact lb_iret X hW dX8_labels_30
def f_X8_labels (x1 : Int32) (x2 : Int32) (σ : lb_Mem) : Option (Int32 × lb_Mem) := if (f_X7_isLabel x2) = 0 then f_X8_labels_17 x1 x2 σ (f_X8_potThere σ x1) (-1 : Int32) else f_X8_labels_17 x1 x2 σ (f_X8_potThere σ x1) (0 : Int32)
set_option maxRecDepth 20000 in
set_option maxHeartbeats 4000000 in
theorem m_X8_labels (l : Launch) (G : lb_G) (σ : lb_Mem) (x1 : Int32) (x2 : Int32) (qr : (Int32 × lb_Mem)) (h : f_X8_labels x1 x2 σ = some qr) : lb_M l yX8_labels cX8_labels 5 (some .int) rmX8_labels [.ref (lb_ad G 0), .int x1, .int x2] G σ (lb_QI G qr.1 qr.2) := by
  refine lb_start RX8 (by decide +kernel) rfl (Nat.le_of_ble_eq_true rfl) (fun p e s m below meth c X hW ls hl => ?_)
  have hx := X.1
  have hb := X.2.1
  have hl : lv_has ls 5 [(0, .ref (lb_ad G 0)), (1, .int x1), (2, .int x2)] := hl
  have h : (if (f_X7_isLabel x2) = 0 then f_X8_labels_17 x1 x2 σ (f_X8_potThere σ x1) (-1 : Int32) else f_X8_labels_17 x1 x2 σ (f_X8_potThere σ x1) (0 : Int32)) = some qr := h
  skip
  refine lv_aload_n hx hb dX8_labels_0 rfl (lv_at hl 0 rfl) ?_
  refine lv_iload_n hx hb dX8_labels_1 rfl (lv_at hl 1 rfl) ?_
  refine rc_X8_83 X hW x1 ⟨⟨rfl, rfl⟩, Nat.le_of_ble_eq_true rfl, Nat.le_of_ble_eq_true rfl⟩ hl.1 (Nat.le_of_ble_eq_true rfl) dX8_labels_2 ⟨Nat.zero_le _, Nat.zero_le _⟩ (fun H locs hW => ?_)
  refine lv_iload_n hx hb dX8_labels_5 rfl (lv_at hl 2 rfl) ?_
  refine rc_X8_128 X hW x2 ⟨⟨rfl, rfl⟩, Nat.le_of_ble_eq_true rfl, Nat.le_of_ble_eq_true rfl⟩ hl.1 (Nat.le_of_ble_eq_true rfl) dX8_labels_6 ⟨Nat.zero_le _, Nat.zero_le _⟩ (fun H locs hW => ?_)
  refine lv_if_eq (tgt := 16) hx hb dX8_labels_9 (by decide) (fun c9 => ?_) (fun c9 => ?_)
  · have h := (if_pos c9).symm.trans h
    refine lv_iconst (v := -1) hx hb dX8_labels_16 rfl ?_
    exact w_X8_labels_17 X x1 x2 σ (f_X8_potThere σ x1) (-1 : Int32) _ _ _ h hW (lv_sub hl [0, 1, 2] rfl)
  · have h := (if_neg c9).symm.trans h
    refine lv_iconst (v := 0) hx hb dX8_labels_12 rfl ?_
    refine lv_goto (tgt := 17) hx hb dX8_labels_13 (by decide) ?_
    exact w_X8_labels_17 X x1 x2 σ (f_X8_potThere σ x1) (0 : Int32) _ _ _ h hW (lv_sub hl [0, 1, 2] rfl)
abbrev rmX8_gives : Room := { frames := 2, cells := 0, slots := 0, locals := 42 }
def f_X8_gives (x1 : Int32) (x2 : Int32) (σ : lb_Mem) : Option (Int32 × lb_Mem) := lb_let ((f_X8_first (f_X8_potThere σ x1) (f_X8_personThere σ x2))) (fun v13 : Int32 => if v13 = 0 then lb_chk (lb_ix x1 8) (lb_let ((σ 14 x1.toNatClampNeg)) (fun v33 : Int32 => lb_chk (lb_ix x1 8) (lb_let (lb_sto σ 14 x1.toNatClampNeg x2) (fun s44 : lb_Mem => some (v33, s44))))) else (f_X8_refuse v13 σ).bind (fun q20 => some (q20.1, q20.2)))
set_option maxRecDepth 20000 in
set_option maxHeartbeats 4000000 in
theorem m_X8_gives (l : Launch) (G : lb_G) (σ : lb_Mem) (x1 : Int32) (x2 : Int32) (qr : (Int32 × lb_Mem)) (h : f_X8_gives x1 x2 σ = some qr) : lb_M l yX8_gives cX8_gives 5 (some .int) rmX8_gives [.ref (lb_ad G 0), .int x1, .int x2] G σ (lb_QI G qr.1 qr.2) := by
  refine lb_start RX8 (by decide +kernel) rfl (Nat.le_of_ble_eq_true rfl) (fun p e s m below meth c X hW ls hl => ?_)
  have hx := X.1
  have hb := X.2.1
  have hl : lv_has ls 5 [(0, .ref (lb_ad G 0)), (1, .int x1), (2, .int x2)] := hl
  have h : (lb_let ((f_X8_first (f_X8_potThere σ x1) (f_X8_personThere σ x2))) (fun v13 : Int32 => if v13 = 0 then lb_chk (lb_ix x1 8) (lb_let ((σ 14 x1.toNatClampNeg)) (fun v33 : Int32 => lb_chk (lb_ix x1 8) (lb_let (lb_sto σ 14 x1.toNatClampNeg x2) (fun s44 : lb_Mem => some (v33, s44))))) else (f_X8_refuse v13 σ).bind (fun q20 => some (q20.1, q20.2)))) = some qr := h
  skip
  refine lv_aload_n hx hb dX8_gives_0 rfl (lv_at hl 0 rfl) ?_
  refine lv_iload_n hx hb dX8_gives_1 rfl (lv_at hl 1 rfl) ?_
  refine rc_X8_83 X hW x1 ⟨⟨rfl, rfl⟩, Nat.le_of_ble_eq_true rfl, Nat.le_of_ble_eq_true rfl⟩ hl.1 (Nat.le_of_ble_eq_true rfl) dX8_gives_2 ⟨Nat.zero_le _, Nat.zero_le _⟩ (fun H locs hW => ?_)
  refine lv_aload_n hx hb dX8_gives_5 rfl (lv_at hl 0 rfl) ?_
  refine lv_iload_n hx hb dX8_gives_6 rfl (lv_at hl 2 rfl) ?_
  refine rc_X8_107 X hW x2 ⟨⟨rfl, rfl⟩, Nat.le_of_ble_eq_true rfl, Nat.le_of_ble_eq_true rfl⟩ hl.1 (Nat.le_of_ble_eq_true rfl) dX8_gives_7 ⟨Nat.zero_le _, Nat.zero_le _⟩ (fun H locs hW => ?_)
  refine rc_X8_51 X hW (f_X8_potThere σ x1) (f_X8_personThere σ x2) ⟨⟨rfl, rfl⟩, Nat.le_of_ble_eq_true rfl, Nat.le_of_ble_eq_true rfl⟩ hl.1 (Nat.le_of_ble_eq_true rfl) dX8_gives_10 ⟨Nat.zero_le _, Nat.zero_le _⟩ (fun H locs hW => ?_)
  refine lv_topi (fun v13 e13 => ?_)
  have h := lb_letI e13 h
  refine lv_istore_n (lv' := [(3, .int v13), (0, .ref (lb_ad G 0)), (1, .int x1), (2, .int x2)]) hx hb dX8_gives_13 rfl hl (by decide) rfl (fun ls hl => ?_)
  refine lv_iload_n hx hb dX8_gives_14 rfl (lv_at hl 0 rfl) ?_
  refine lv_if_eq (tgt := 24) hx hb dX8_gives_15 (by decide) (fun c15 => ?_) (fun c15 => ?_)
  · have h := (if_pos c15).symm.trans h
    refine lv_aload_n hx hb dX8_gives_24 rfl (lv_at hl 1 rfl) ?_
    refine rg_X8_10 X hW dX8_gives_25 ?_
    refine rg_X8_104 (k := 14) X hW lb_V1 rfl dX8_gives_28 ?_
    refine lv_iload_n hx hb dX8_gives_31 rfl (lv_at hl 2 rfl) ?_
    obtain ⟨i32, h⟩ := lb_chk_in h
    refine lb_ild X hW (show lb_ar 14 = 7 + 1 from rfl) i32 dX8_gives_32 ?_
    refine lv_topi (fun v33 e33 => ?_)
    have h := lb_letI e33 h
    refine lv_istore (lv' := [(4, .int v33), (3, .int v13), (0, .ref (lb_ad G 0)), (1, .int x1), (2, .int x2)]) hx hb dX8_gives_33 hl (by decide) rfl (fun ls hl => ?_)
    refine lv_aload_n hx hb dX8_gives_35 rfl (lv_at hl 2 rfl) ?_
    refine rg_X8_10 X hW dX8_gives_36 ?_
    refine rg_X8_104 (k := 14) X hW lb_V1 rfl dX8_gives_39 ?_
    refine lv_iload_n hx hb dX8_gives_42 rfl (lv_at hl 3 rfl) ?_
    refine lv_iload_n hx hb dX8_gives_43 rfl (lv_at hl 4 rfl) ?_
    obtain ⟨i44, h⟩ := lb_chk_in h
    refine lb_ist X hW (show lb_ar 14 = 7 + 1 from rfl) i44 dX8_gives_44 (fun H locs hW => ?_)
    obtain ⟨s44, e44⟩ : ∃ z, z = lb_sto σ 14 x1.toNatClampNeg x2 := ⟨_, rfl⟩
    rw [← e44] at hW
    have h := lb_letI e44 h
    refine lv_iload hx hb dX8_gives_45 (lv_at hl 0 rfl) ?_
    obtain rfl := Option.some.inj h
    exact lb_iret X hW dX8_gives_47
  · have h := (if_neg c15).symm.trans h
    refine lv_aload_n hx hb dX8_gives_18 rfl (lv_at hl 1 rfl) ?_
    refine lv_iload_n hx hb dX8_gives_19 rfl (lv_at hl 0 rfl) ?_
    obtain ⟨q20, e20, h⟩ := lb_bind h
    refine rc_X8_55 X hW e20 ⟨⟨rfl, rfl⟩, Nat.le_of_ble_eq_true rfl, Nat.le_of_ble_eq_true rfl⟩ hl.1 (Nat.le_of_ble_eq_true rfl) dX8_gives_20 ⟨Nat.zero_le _, Nat.zero_le _⟩ (fun H locs hW => ?_)
    obtain rfl := Option.some.inj h
    exact lb_iret X hW dX8_gives_23
