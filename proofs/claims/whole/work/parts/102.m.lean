abbrev rmX7_labelsOneOn : Room := { frames := 0, cells := 0, slots := 0, locals := 0 }
def f_X7_labelsOneOn_2 (b0 : Nat) : Nat → Int32 → lb_Mem → Option lb_Mem
  | 0, _, _ => none
  | n + 1, x1, σ => if (σ b0 9) ≤ x1 then some σ else lb_chk (lb_ix x1 8) (if (σ (b0 + 11) x1.toNatClampNeg) = (6 : Int32) then f_X7_labelsOneOn_2 b0 n (x1 + 1) σ else lb_chk (lb_ix x1 8) (lb_chk (lb_ix x1 8) (lb_let (lb_sto σ (b0 + 11) x1.toNatClampNeg (((σ (b0 + 11) x1.toNatClampNeg) + (1 : Int32)) - ((σ (b0 + 11) x1.toNatClampNeg) + (1 : Int32)) / (6 : Int32) * (6 : Int32))) (fun s37 : lb_Mem => f_X7_labelsOneOn_2 b0 n (x1 + 1) s37))))
set_option maxRecDepth 20000 in
set_option maxHeartbeats 4000000 in
theorem w_X7_labelsOneOn_2 {p : Program} {l : Launch} {e : Env} {s : State} {m : MethodId} {args : Array Value} {below : List Frame} {meth : Method} {c : Code} {G : lb_G} {b0 : Nat} {qr : lb_Mem} (X : lb_C G p s m args meth c cX7_labelsOneOn 2 RX7 none) (hb0 : lb_V b0) : ∀ (n : Nat) (x1 : Int32) (σ : lb_Mem) (H : Heap) (locs : List Loc) (ls : Array Slot), f_X7_labelsOneOn_2 b0 n x1 σ = some qr → lb_W G s σ H locs → lv_has ls 2 [(0, .ref (lb_ad G b0)), (1, .int x1)] → W p l e rmX7_labelsOneOn s m args below meth c H locs 0 0 (MQ below (lb_QV G qr) args s 0 0 (lb_A G)) (F0 m 2 ls []) := by
  have hx := X.1
  have hb := X.2.1
  intro n
  induction n with
  | zero => intro x1 σ H locs ls h hW hl; exact absurd h (fun z => by cases z)
  | succ n ih =>
    intro x1 σ H locs ls h hW hl
    have h : (if (σ b0 9) ≤ x1 then some σ else lb_chk (lb_ix x1 8) (if (σ (b0 + 11) x1.toNatClampNeg) = (6 : Int32) then f_X7_labelsOneOn_2 b0 n (x1 + 1) σ else lb_chk (lb_ix x1 8) (lb_chk (lb_ix x1 8) (lb_let (lb_sto σ (b0 + 11) x1.toNatClampNeg (((σ (b0 + 11) x1.toNatClampNeg) + (1 : Int32)) - ((σ (b0 + 11) x1.toNatClampNeg) + (1 : Int32)) / (6 : Int32) * (6 : Int32))) (fun s37 : lb_Mem => f_X7_labelsOneOn_2 b0 n (x1 + 1) s37))))) = some qr := h
    refine lv_iload_n hx hb dX7_labelsOneOn_2 rfl (lv_at hl 1 rfl) ?_
    refine lv_aload_n hx hb dX7_labelsOneOn_3 rfl (lv_at hl 0 rfl) ?_
    refine rg_X7_58 X hW hb0 dX7_labelsOneOn_4 ?_
    refine lv_icmp_ge (tgt := 44) hx hb dX7_labelsOneOn_7 (by decide) (fun c7 => ?_) (fun c7 => ?_)
    · have h := (if_pos c7).symm.trans h
      obtain rfl := Option.some.inj h
      exact lb_vret X hW dX7_labelsOneOn_44
    · have h := (if_neg c7).symm.trans h
      refine lv_aload_n hx hb dX7_labelsOneOn_10 rfl (lv_at hl 0 rfl) ?_
      refine rg_X7_43 (k := (b0 + 11)) X hW hb0 rfl dX7_labelsOneOn_11 ?_
      refine lv_iload_n hx hb dX7_labelsOneOn_14 rfl (lv_at hl 1 rfl) ?_
      obtain ⟨i15, h⟩ := lb_chk_in h
      refine lb_ild X hW (lb_Var11 hb0) i15 dX7_labelsOneOn_15 ?_
      refine lv_bipush (v := 6) hx hb dX7_labelsOneOn_16 rfl ?_
      refine lv_icmp_eq (tgt := 38) hx hb dX7_labelsOneOn_18 (by decide) (fun c18 => ?_) (fun c18 => ?_)
      · have h := (if_pos c18).symm.trans h
        refine lv_iinc (v := (x1 + 1)) (lv' := [(1, .int (x1 + 1)), (0, .ref (lb_ad G b0))]) hx hb dX7_labelsOneOn_38 hl (k := 1) rfl rfl (by decide) rfl (fun ls hl => ?_)
        refine lv_goto (tgt := 2) hx hb dX7_labelsOneOn_41 (by decide) ?_
        exact ih (x1 + 1) σ _ _ _ h hW (lv_sub hl [1, 0] rfl)
      · have h := (if_neg c18).symm.trans h
        refine lv_aload_n hx hb dX7_labelsOneOn_21 rfl (lv_at hl 0 rfl) ?_
        refine rg_X7_43 (k := (b0 + 11)) X hW hb0 rfl dX7_labelsOneOn_22 ?_
        refine lv_iload_n hx hb dX7_labelsOneOn_25 rfl (lv_at hl 1 rfl) ?_
        refine lv_aload_n hx hb dX7_labelsOneOn_26 rfl (lv_at hl 0 rfl) ?_
        refine rg_X7_43 (k := (b0 + 11)) X hW hb0 rfl dX7_labelsOneOn_27 ?_
        refine lv_iload_n hx hb dX7_labelsOneOn_30 rfl (lv_at hl 1 rfl) ?_
        obtain ⟨i31, h⟩ := lb_chk_in h
        refine lb_ild X hW (lb_Var11 hb0) i31 dX7_labelsOneOn_31 ?_
        refine lv_iconst (v := 1) hx hb dX7_labelsOneOn_32 rfl ?_
        refine lv_iadd hx hb dX7_labelsOneOn_33 ?_
        refine lv_bipush (v := 6) hx hb dX7_labelsOneOn_34 rfl ?_
        refine lv_irem hx hb dX7_labelsOneOn_36 (by decide) ?_
        obtain ⟨i37, h⟩ := lb_chk_in h
        refine lb_ist X hW (lb_Var11 hb0) i37 dX7_labelsOneOn_37 (fun H locs hW => ?_)
        obtain ⟨s37, e37⟩ : ∃ z, z = lb_sto σ (b0 + 11) x1.toNatClampNeg (((σ (b0 + 11) x1.toNatClampNeg) + (1 : Int32)) - ((σ (b0 + 11) x1.toNatClampNeg) + (1 : Int32)) / (6 : Int32) * (6 : Int32)) := ⟨_, rfl⟩
        rw [← e37] at hW
        have h := lb_letI e37 h
        refine lv_iinc (v := (x1 + 1)) (lv' := [(1, .int (x1 + 1)), (0, .ref (lb_ad G b0))]) hx hb dX7_labelsOneOn_38 hl (k := 1) rfl rfl (by decide) rfl (fun ls hl => ?_)
        refine lv_goto (tgt := 2) hx hb dX7_labelsOneOn_41 (by decide) ?_
        exact ih (x1 + 1) s37 _ _ _ h hW (lv_sub hl [1, 0] rfl)
def f_X7_labelsOneOn (b0 : Nat) (σ : lb_Mem) : Option lb_Mem := f_X7_labelsOneOn_2 b0 lb_N (0 : Int32) σ
set_option maxRecDepth 20000 in
set_option maxHeartbeats 4000000 in
theorem m_X7_labelsOneOn (l : Launch) (G : lb_G) (σ : lb_Mem) {b0 : Nat} (hb0 : lb_V b0) (qr : lb_Mem) (h : f_X7_labelsOneOn b0 σ = some qr) : lb_M l yX7_labelsOneOn cX7_labelsOneOn 2 none rmX7_labelsOneOn [.ref (lb_ad G b0)] G σ (lb_QV G qr) := by
  refine lb_start RX7 (by decide +kernel) rfl (Nat.le_of_ble_eq_true rfl) (fun p e s m below meth c X hW ls hl => ?_)
  have hx := X.1
  have hb := X.2.1
  have hl : lv_has ls 2 [(0, .ref (lb_ad G b0))] := hl
  have h : (f_X7_labelsOneOn_2 b0 lb_N (0 : Int32) σ) = some qr := h
  skip
  refine lv_iconst (v := 0) hx hb dX7_labelsOneOn_0 rfl ?_
  refine lv_istore_n (lv' := [(1, .int (0 : Int32)), (0, .ref (lb_ad G b0))]) hx hb dX7_labelsOneOn_1 rfl hl (by decide) rfl (fun ls hl => ?_)
  exact w_X7_labelsOneOn_2 X hb0 lb_N (0 : Int32) σ _ _ _ h hW (lv_sub hl [1, 0] rfl)
abbrev rmX7_allGrace : Room := { frames := 0, cells := 0, slots := 0, locals := 0 }
def f_X7_allGrace_4 (σ : lb_Mem) (b0 : Nat) : Nat → Int32 → Int32 → Option Int32
  | 0, _, _ => none
  | n + 1, x1, x2 => if (σ b0 10) ≤ x2 then some x1 else lb_chk (lb_ix x2 5) (lb_let ((x1 + (σ (b0 + 15) x2.toNatClampNeg))) (fun v20 : Int32 => f_X7_allGrace_4 σ b0 n v20 (x2 + 1)))
set_option maxRecDepth 20000 in
set_option maxHeartbeats 4000000 in
theorem w_X7_allGrace_4 {p : Program} {l : Launch} {e : Env} {s : State} {m : MethodId} {args : Array Value} {below : List Frame} {meth : Method} {c : Code} {G : lb_G} {σ : lb_Mem} {b0 : Nat} {qr : Int32} (X : lb_C G p s m args meth c cX7_allGrace 3 RX7 (some .int)) (hb0 : lb_V b0) : ∀ (n : Nat) (x1 : Int32) (x2 : Int32) (H : Heap) (locs : List Loc) (ls : Array Slot), f_X7_allGrace_4 σ b0 n x1 x2 = some qr → lb_W G s σ H locs → lv_has ls 3 [(0, .ref (lb_ad G b0)), (1, .int x1), (2, .int x2)] → W p l e rmX7_allGrace s m args below meth c H locs 0 0 (MQ below (lb_QI G qr σ) args s 0 0 (lb_A G)) (F0 m 4 ls []) := by
  have hx := X.1
  have hb := X.2.1
  intro n
  induction n with
  | zero => intro x1 x2 H locs ls h hW hl; exact absurd h (fun z => by cases z)
  | succ n ih =>
    intro x1 x2 H locs ls h hW hl
    have h : (if (σ b0 10) ≤ x2 then some x1 else lb_chk (lb_ix x2 5) (lb_let ((x1 + (σ (b0 + 15) x2.toNatClampNeg))) (fun v20 : Int32 => f_X7_allGrace_4 σ b0 n v20 (x2 + 1)))) = some qr := h
    refine lv_iload_n hx hb dX7_allGrace_4 rfl (lv_at hl 2 rfl) ?_
    refine lv_aload_n hx hb dX7_allGrace_5 rfl (lv_at hl 0 rfl) ?_
    refine rg_X7_62 X hW hb0 dX7_allGrace_6 ?_
    refine lv_icmp_ge (tgt := 27) hx hb dX7_allGrace_9 (by decide) (fun c9 => ?_) (fun c9 => ?_)
    · have h := (if_pos c9).symm.trans h
      refine lv_iload_n hx hb dX7_allGrace_27 rfl (lv_at hl 1 rfl) ?_
      obtain rfl := Option.some.inj h
      exact lb_iret X hW dX7_allGrace_28
    · have h := (if_neg c9).symm.trans h
      refine lv_iload_n hx hb dX7_allGrace_12 rfl (lv_at hl 1 rfl) ?_
      refine lv_aload_n hx hb dX7_allGrace_13 rfl (lv_at hl 0 rfl) ?_
      refine rg_X7_55 (k := (b0 + 15)) X hW hb0 rfl dX7_allGrace_14 ?_
      refine lv_iload_n hx hb dX7_allGrace_17 rfl (lv_at hl 2 rfl) ?_
      obtain ⟨i18, h⟩ := lb_chk_in h
      refine lb_ild X hW (lb_Var15 hb0) i18 dX7_allGrace_18 ?_
      refine lv_iadd hx hb dX7_allGrace_19 ?_
      refine lv_topi (fun v20 e20 => ?_)
      have h := lb_letI e20 h
      refine lv_istore_n (lv' := [(1, .int v20), (0, .ref (lb_ad G b0)), (2, .int x2)]) hx hb dX7_allGrace_20 rfl hl (by decide) rfl (fun ls hl => ?_)
      refine lv_iinc (v := (x2 + 1)) (lv' := [(2, .int (x2 + 1)), (1, .int v20), (0, .ref (lb_ad G b0))]) hx hb dX7_allGrace_21 hl (k := 2) rfl rfl (by decide) rfl (fun ls hl => ?_)
      refine lv_goto (tgt := 4) hx hb dX7_allGrace_24 (by decide) ?_
      exact ih v20 (x2 + 1) _ _ _ h hW (lv_sub hl [2, 1, 0] rfl)
def f_X7_allGrace (σ : lb_Mem) (b0 : Nat) : Option Int32 := f_X7_allGrace_4 σ b0 lb_N (0 : Int32) (0 : Int32)
set_option maxRecDepth 20000 in
set_option maxHeartbeats 4000000 in
theorem m_X7_allGrace (l : Launch) (G : lb_G) (σ : lb_Mem) {b0 : Nat} (hb0 : lb_V b0) (qr : Int32) (h : f_X7_allGrace σ b0 = some qr) : lb_M l yX7_allGrace cX7_allGrace 3 (some .int) rmX7_allGrace [.ref (lb_ad G b0)] G σ (lb_QI G qr σ) := by
  refine lb_start RX7 (by decide +kernel) rfl (Nat.le_of_ble_eq_true rfl) (fun p e s m below meth c X hW ls hl => ?_)
  have hx := X.1
  have hb := X.2.1
  have hl : lv_has ls 3 [(0, .ref (lb_ad G b0))] := hl
  have h : (f_X7_allGrace_4 σ b0 lb_N (0 : Int32) (0 : Int32)) = some qr := h
  skip
  refine lv_iconst (v := 0) hx hb dX7_allGrace_0 rfl ?_
  refine lv_istore_n (lv' := [(1, .int (0 : Int32)), (0, .ref (lb_ad G b0))]) hx hb dX7_allGrace_1 rfl hl (by decide) rfl (fun ls hl => ?_)
  refine lv_iconst (v := 0) hx hb dX7_allGrace_2 rfl ?_
  refine lv_istore_n (lv' := [(2, .int (0 : Int32)), (1, .int (0 : Int32)), (0, .ref (lb_ad G b0))]) hx hb dX7_allGrace_3 rfl hl (by decide) rfl (fun ls hl => ?_)
  exact w_X7_allGrace_4 X hb0 lb_N (0 : Int32) (0 : Int32) _ _ _ h hW (lv_sub hl [2, 1, 0] rfl)
abbrev rmX7_withoutGrace : Room := { frames := 0, cells := 0, slots := 0, locals := 0 }
def f_X7_withoutGrace_4 (σ : lb_Mem) (b0 : Nat) : Nat → Int32 → Int32 → Option Int32
  | 0, _, _ => none
  | n + 1, x1, x2 => if (σ b0 10) ≤ x2 then some x1 else lb_chk (lb_ix x2 5) (if (σ (b0 + 15) x2.toNatClampNeg) = 0 then f_X7_withoutGrace_4 σ b0 n (x1 + 1) (x2 + 1) else f_X7_withoutGrace_4 σ b0 n x1 (x2 + 1))
set_option maxRecDepth 20000 in
set_option maxHeartbeats 4000000 in
theorem w_X7_withoutGrace_4 {p : Program} {l : Launch} {e : Env} {s : State} {m : MethodId} {args : Array Value} {below : List Frame} {meth : Method} {c : Code} {G : lb_G} {σ : lb_Mem} {b0 : Nat} {qr : Int32} (X : lb_C G p s m args meth c cX7_withoutGrace 3 RX7 (some .int)) (hb0 : lb_V b0) : ∀ (n : Nat) (x1 : Int32) (x2 : Int32) (H : Heap) (locs : List Loc) (ls : Array Slot), f_X7_withoutGrace_4 σ b0 n x1 x2 = some qr → lb_W G s σ H locs → lv_has ls 3 [(0, .ref (lb_ad G b0)), (1, .int x1), (2, .int x2)] → W p l e rmX7_withoutGrace s m args below meth c H locs 0 0 (MQ below (lb_QI G qr σ) args s 0 0 (lb_A G)) (F0 m 4 ls []) := by
  have hx := X.1
  have hb := X.2.1
  intro n
  induction n with
  | zero => intro x1 x2 H locs ls h hW hl; exact absurd h (fun z => by cases z)
  | succ n ih =>
    intro x1 x2 H locs ls h hW hl
    have h : (if (σ b0 10) ≤ x2 then some x1 else lb_chk (lb_ix x2 5) (if (σ (b0 + 15) x2.toNatClampNeg) = 0 then f_X7_withoutGrace_4 σ b0 n (x1 + 1) (x2 + 1) else f_X7_withoutGrace_4 σ b0 n x1 (x2 + 1))) = some qr := h
    refine lv_iload_n hx hb dX7_withoutGrace_4 rfl (lv_at hl 2 rfl) ?_
    refine lv_aload_n hx hb dX7_withoutGrace_5 rfl (lv_at hl 0 rfl) ?_
    refine rg_X7_62 X hW hb0 dX7_withoutGrace_6 ?_
    refine lv_icmp_ge (tgt := 30) hx hb dX7_withoutGrace_9 (by decide) (fun c9 => ?_) (fun c9 => ?_)
    · have h := (if_pos c9).symm.trans h
      refine lv_iload_n hx hb dX7_withoutGrace_30 rfl (lv_at hl 1 rfl) ?_
      obtain rfl := Option.some.inj h
      exact lb_iret X hW dX7_withoutGrace_31
    · have h := (if_neg c9).symm.trans h
      refine lv_aload_n hx hb dX7_withoutGrace_12 rfl (lv_at hl 0 rfl) ?_
      refine rg_X7_55 (k := (b0 + 15)) X hW hb0 rfl dX7_withoutGrace_13 ?_
      refine lv_iload_n hx hb dX7_withoutGrace_16 rfl (lv_at hl 2 rfl) ?_
      obtain ⟨i17, h⟩ := lb_chk_in h
      refine lb_ild X hW (lb_Var15 hb0) i17 dX7_withoutGrace_17 ?_
      refine lv_if_ne (tgt := 24) hx hb dX7_withoutGrace_18 (by decide) (fun c18 => ?_) (fun c18 => ?_)
      · have h := (if_neg c18).symm.trans h
        refine lv_iinc (v := (x2 + 1)) (lv' := [(2, .int (x2 + 1)), (0, .ref (lb_ad G b0)), (1, .int x1)]) hx hb dX7_withoutGrace_24 hl (k := 2) rfl rfl (by decide) rfl (fun ls hl => ?_)
        refine lv_goto (tgt := 4) hx hb dX7_withoutGrace_27 (by decide) ?_
        exact ih x1 (x2 + 1) _ _ _ h hW (lv_sub hl [1, 2, 0] rfl)
      · have h := (if_pos c18).symm.trans h
        refine lv_iinc (v := (x1 + 1)) (lv' := [(1, .int (x1 + 1)), (0, .ref (lb_ad G b0)), (2, .int x2)]) hx hb dX7_withoutGrace_21 hl (k := 1) rfl rfl (by decide) rfl (fun ls hl => ?_)
        refine lv_iinc (v := (x2 + 1)) (lv' := [(2, .int (x2 + 1)), (1, .int (x1 + 1)), (0, .ref (lb_ad G b0))]) hx hb dX7_withoutGrace_24 hl (k := 2) rfl rfl (by decide) rfl (fun ls hl => ?_)
        refine lv_goto (tgt := 4) hx hb dX7_withoutGrace_27 (by decide) ?_
        exact ih (x1 + 1) (x2 + 1) _ _ _ h hW (lv_sub hl [2, 1, 0] rfl)
def f_X7_withoutGrace (σ : lb_Mem) (b0 : Nat) : Option Int32 := f_X7_withoutGrace_4 σ b0 lb_N (0 : Int32) (0 : Int32)
set_option maxRecDepth 20000 in
set_option maxHeartbeats 4000000 in
theorem m_X7_withoutGrace (l : Launch) (G : lb_G) (σ : lb_Mem) {b0 : Nat} (hb0 : lb_V b0) (qr : Int32) (h : f_X7_withoutGrace σ b0 = some qr) : lb_M l yX7_withoutGrace cX7_withoutGrace 3 (some .int) rmX7_withoutGrace [.ref (lb_ad G b0)] G σ (lb_QI G qr σ) := by
  refine lb_start RX7 (by decide +kernel) rfl (Nat.le_of_ble_eq_true rfl) (fun p e s m below meth c X hW ls hl => ?_)
  have hx := X.1
  have hb := X.2.1
  have hl : lv_has ls 3 [(0, .ref (lb_ad G b0))] := hl
  have h : (f_X7_withoutGrace_4 σ b0 lb_N (0 : Int32) (0 : Int32)) = some qr := h
  skip
  refine lv_iconst (v := 0) hx hb dX7_withoutGrace_0 rfl ?_
  refine lv_istore_n (lv' := [(1, .int (0 : Int32)), (0, .ref (lb_ad G b0))]) hx hb dX7_withoutGrace_1 rfl hl (by decide) rfl (fun ls hl => ?_)
  refine lv_iconst (v := 0) hx hb dX7_withoutGrace_2 rfl ?_
  refine lv_istore_n (lv' := [(2, .int (0 : Int32)), (1, .int (0 : Int32)), (0, .ref (lb_ad G b0))]) hx hb dX7_withoutGrace_3 rfl hl (by decide) rfl (fun ls hl => ?_)
  exact w_X7_withoutGrace_4 X hb0 lb_N (0 : Int32) (0 : Int32) _ _ _ h hW (lv_sub hl [2, 1, 0] rfl)
abbrev rmX7_spoons : Room := { frames := 0, cells := 0, slots := 0, locals := 0 }
def f_X7_spoons_4 (σ : lb_Mem) (b0 : Nat) : Nat → Int32 → Int32 → Option Int32
  | 0, _, _ => none
  | n + 1, x1, x2 => if (σ b0 9) ≤ x2 then some x1 else lb_chk (lb_ix x2 8) (lb_let ((x1 + (σ (b0 + 12) x2.toNatClampNeg))) (fun v20 : Int32 => f_X7_spoons_4 σ b0 n v20 (x2 + 1)))
set_option maxRecDepth 20000 in
set_option maxHeartbeats 4000000 in
theorem w_X7_spoons_4 {p : Program} {l : Launch} {e : Env} {s : State} {m : MethodId} {args : Array Value} {below : List Frame} {meth : Method} {c : Code} {G : lb_G} {σ : lb_Mem} {b0 : Nat} {qr : Int32} (X : lb_C G p s m args meth c cX7_spoons 3 RX7 (some .int)) (hb0 : lb_V b0) : ∀ (n : Nat) (x1 : Int32) (x2 : Int32) (H : Heap) (locs : List Loc) (ls : Array Slot), f_X7_spoons_4 σ b0 n x1 x2 = some qr → lb_W G s σ H locs → lv_has ls 3 [(0, .ref (lb_ad G b0)), (1, .int x1), (2, .int x2)] → W p l e rmX7_spoons s m args below meth c H locs 0 0 (MQ below (lb_QI G qr σ) args s 0 0 (lb_A G)) (F0 m 4 ls []) := by
  have hx := X.1
  have hb := X.2.1
  intro n
  induction n with
  | zero => intro x1 x2 H locs ls h hW hl; exact absurd h (fun z => by cases z)
  | succ n ih =>
    intro x1 x2 H locs ls h hW hl
    have h : (if (σ b0 9) ≤ x2 then some x1 else lb_chk (lb_ix x2 8) (lb_let ((x1 + (σ (b0 + 12) x2.toNatClampNeg))) (fun v20 : Int32 => f_X7_spoons_4 σ b0 n v20 (x2 + 1)))) = some qr := h
    refine lv_iload_n hx hb dX7_spoons_4 rfl (lv_at hl 2 rfl) ?_
    refine lv_aload_n hx hb dX7_spoons_5 rfl (lv_at hl 0 rfl) ?_
    refine rg_X7_58 X hW hb0 dX7_spoons_6 ?_
    refine lv_icmp_ge (tgt := 27) hx hb dX7_spoons_9 (by decide) (fun c9 => ?_) (fun c9 => ?_)
    · have h := (if_pos c9).symm.trans h
      refine lv_iload_n hx hb dX7_spoons_27 rfl (lv_at hl 1 rfl) ?_
      obtain rfl := Option.some.inj h
      exact lb_iret X hW dX7_spoons_28
    · have h := (if_neg c9).symm.trans h
      refine lv_iload_n hx hb dX7_spoons_12 rfl (lv_at hl 1 rfl) ?_
      refine lv_aload_n hx hb dX7_spoons_13 rfl (lv_at hl 0 rfl) ?_
      refine rg_X7_46 (k := (b0 + 12)) X hW hb0 rfl dX7_spoons_14 ?_
      refine lv_iload_n hx hb dX7_spoons_17 rfl (lv_at hl 2 rfl) ?_
      obtain ⟨i18, h⟩ := lb_chk_in h
      refine lb_ild X hW (lb_Var12 hb0) i18 dX7_spoons_18 ?_
      refine lv_iadd hx hb dX7_spoons_19 ?_
      refine lv_topi (fun v20 e20 => ?_)
      have h := lb_letI e20 h
      refine lv_istore_n (lv' := [(1, .int v20), (0, .ref (lb_ad G b0)), (2, .int x2)]) hx hb dX7_spoons_20 rfl hl (by decide) rfl (fun ls hl => ?_)
      refine lv_iinc (v := (x2 + 1)) (lv' := [(2, .int (x2 + 1)), (1, .int v20), (0, .ref (lb_ad G b0))]) hx hb dX7_spoons_21 hl (k := 2) rfl rfl (by decide) rfl (fun ls hl => ?_)
      refine lv_goto (tgt := 4) hx hb dX7_spoons_24 (by decide) ?_
      exact ih v20 (x2 + 1) _ _ _ h hW (lv_sub hl [2, 1, 0] rfl)
def f_X7_spoons (σ : lb_Mem) (b0 : Nat) : Option Int32 := f_X7_spoons_4 σ b0 lb_N (0 : Int32) (0 : Int32)
set_option maxRecDepth 20000 in
set_option maxHeartbeats 4000000 in
theorem m_X7_spoons (l : Launch) (G : lb_G) (σ : lb_Mem) {b0 : Nat} (hb0 : lb_V b0) (qr : Int32) (h : f_X7_spoons σ b0 = some qr) : lb_M l yX7_spoons cX7_spoons 3 (some .int) rmX7_spoons [.ref (lb_ad G b0)] G σ (lb_QI G qr σ) := by
  refine lb_start RX7 (by decide +kernel) rfl (Nat.le_of_ble_eq_true rfl) (fun p e s m below meth c X hW ls hl => ?_)
  have hx := X.1
  have hb := X.2.1
  have hl : lv_has ls 3 [(0, .ref (lb_ad G b0))] := hl
  have h : (f_X7_spoons_4 σ b0 lb_N (0 : Int32) (0 : Int32)) = some qr := h
  skip
  refine lv_iconst (v := 0) hx hb dX7_spoons_0 rfl ?_
  refine lv_istore_n (lv' := [(1, .int (0 : Int32)), (0, .ref (lb_ad G b0))]) hx hb dX7_spoons_1 rfl hl (by decide) rfl (fun ls hl => ?_)
  refine lv_iconst (v := 0) hx hb dX7_spoons_2 rfl ?_
  refine lv_istore_n (lv' := [(2, .int (0 : Int32)), (1, .int (0 : Int32)), (0, .ref (lb_ad G b0))]) hx hb dX7_spoons_3 rfl hl (by decide) rfl (fun ls hl => ?_)
  exact w_X7_spoons_4 X hb0 lb_N (0 : Int32) (0 : Int32) _ _ _ h hW (lv_sub hl [2, 1, 0] rfl)
abbrev rmX7_potsOf : Room := { frames := 0, cells := 0, slots := 0, locals := 0 }
def f_X7_potsOf_4 (σ : lb_Mem) (b0 : Nat) : Nat → Int32 → Int32 → Int32 → Option Int32
  | 0, _, _, _ => none
  | n + 1, x1, x2, x3 => if (σ b0 9) ≤ x3 then some x2 else lb_chk (lb_ix x3 8) (if (σ (b0 + 13) x3.toNatClampNeg) = x1 then lb_let ((x2 ||| ((1 : Int32) <<< (x3 &&& 31)))) (fun v27 : Int32 => f_X7_potsOf_4 σ b0 n x1 v27 (x3 + 1)) else f_X7_potsOf_4 σ b0 n x1 x2 (x3 + 1))
set_option maxRecDepth 20000 in
set_option maxHeartbeats 4000000 in
theorem w_X7_potsOf_4 {p : Program} {l : Launch} {e : Env} {s : State} {m : MethodId} {args : Array Value} {below : List Frame} {meth : Method} {c : Code} {G : lb_G} {σ : lb_Mem} {b0 : Nat} {qr : Int32} (X : lb_C G p s m args meth c cX7_potsOf 4 RX7 (some .int)) (hb0 : lb_V b0) : ∀ (n : Nat) (x1 : Int32) (x2 : Int32) (x3 : Int32) (H : Heap) (locs : List Loc) (ls : Array Slot), f_X7_potsOf_4 σ b0 n x1 x2 x3 = some qr → lb_W G s σ H locs → lv_has ls 4 [(0, .ref (lb_ad G b0)), (1, .int x1), (2, .int x2), (3, .int x3)] → W p l e rmX7_potsOf s m args below meth c H locs 0 0 (MQ below (lb_QI G qr σ) args s 0 0 (lb_A G)) (F0 m 4 ls []) := by
  have hx := X.1
  have hb := X.2.1
  intro n
  induction n with
  | zero => intro x1 x2 x3 H locs ls h hW hl; exact absurd h (fun z => by cases z)
  | succ n ih =>
    intro x1 x2 x3 H locs ls h hW hl
    have h : (if (σ b0 9) ≤ x3 then some x2 else lb_chk (lb_ix x3 8) (if (σ (b0 + 13) x3.toNatClampNeg) = x1 then lb_let ((x2 ||| ((1 : Int32) <<< (x3 &&& 31)))) (fun v27 : Int32 => f_X7_potsOf_4 σ b0 n x1 v27 (x3 + 1)) else f_X7_potsOf_4 σ b0 n x1 x2 (x3 + 1))) = some qr := h
    refine lv_iload_n hx hb dX7_potsOf_4 rfl (lv_at hl 3 rfl) ?_
    refine lv_aload_n hx hb dX7_potsOf_5 rfl (lv_at hl 0 rfl) ?_
    refine rg_X7_58 X hW hb0 dX7_potsOf_6 ?_
    refine lv_icmp_ge (tgt := 34) hx hb dX7_potsOf_9 (by decide) (fun c9 => ?_) (fun c9 => ?_)
    · have h := (if_pos c9).symm.trans h
      refine lv_iload_n hx hb dX7_potsOf_34 rfl (lv_at hl 2 rfl) ?_
      obtain rfl := Option.some.inj h
      exact lb_iret X hW dX7_potsOf_35
    · have h := (if_neg c9).symm.trans h
      refine lv_aload_n hx hb dX7_potsOf_12 rfl (lv_at hl 0 rfl) ?_
      refine rg_X7_49 (k := (b0 + 13)) X hW hb0 rfl dX7_potsOf_13 ?_
      refine lv_iload_n hx hb dX7_potsOf_16 rfl (lv_at hl 3 rfl) ?_
      obtain ⟨i17, h⟩ := lb_chk_in h
      refine lb_ild X hW (lb_Var13 hb0) i17 dX7_potsOf_17 ?_
      refine lv_iload_n hx hb dX7_potsOf_18 rfl (lv_at hl 1 rfl) ?_
      refine lv_icmp_ne (tgt := 28) hx hb dX7_potsOf_19 (by decide) (fun c19 => ?_) (fun c19 => ?_)
      · have h := (if_neg c19).symm.trans h
        refine lv_iinc (v := (x3 + 1)) (lv' := [(3, .int (x3 + 1)), (0, .ref (lb_ad G b0)), (1, .int x1), (2, .int x2)]) hx hb dX7_potsOf_28 hl (k := 3) rfl rfl (by decide) rfl (fun ls hl => ?_)
        refine lv_goto (tgt := 4) hx hb dX7_potsOf_31 (by decide) ?_
        exact ih x1 x2 (x3 + 1) _ _ _ h hW (lv_sub hl [1, 2, 3, 0] rfl)
      · have h := (if_pos c19).symm.trans h
        refine lv_iload_n hx hb dX7_potsOf_22 rfl (lv_at hl 2 rfl) ?_
        refine lv_iconst (v := 1) hx hb dX7_potsOf_23 rfl ?_
        refine lv_iload_n hx hb dX7_potsOf_24 rfl (lv_at hl 3 rfl) ?_
        refine lv_ishl hx hb dX7_potsOf_25 ?_
        refine lv_ior hx hb dX7_potsOf_26 ?_
        refine lv_topi (fun v27 e27 => ?_)
        have h := lb_letI e27 h
        refine lv_istore_n (lv' := [(2, .int v27), (0, .ref (lb_ad G b0)), (1, .int x1), (3, .int x3)]) hx hb dX7_potsOf_27 rfl hl (by decide) rfl (fun ls hl => ?_)
        refine lv_iinc (v := (x3 + 1)) (lv' := [(3, .int (x3 + 1)), (2, .int v27), (0, .ref (lb_ad G b0)), (1, .int x1)]) hx hb dX7_potsOf_28 hl (k := 3) rfl rfl (by decide) rfl (fun ls hl => ?_)
        refine lv_goto (tgt := 4) hx hb dX7_potsOf_31 (by decide) ?_
        exact ih x1 v27 (x3 + 1) _ _ _ h hW (lv_sub hl [2, 3, 1, 0] rfl)
def f_X7_potsOf (σ : lb_Mem) (b0 : Nat) (x1 : Int32) : Option Int32 := f_X7_potsOf_4 σ b0 lb_N x1 (0 : Int32) (0 : Int32)
set_option maxRecDepth 20000 in
set_option maxHeartbeats 4000000 in
theorem m_X7_potsOf (l : Launch) (G : lb_G) (σ : lb_Mem) {b0 : Nat} (hb0 : lb_V b0) (x1 : Int32) (qr : Int32) (h : f_X7_potsOf σ b0 x1 = some qr) : lb_M l yX7_potsOf cX7_potsOf 4 (some .int) rmX7_potsOf [.ref (lb_ad G b0), .int x1] G σ (lb_QI G qr σ) := by
  refine lb_start RX7 (by decide +kernel) rfl (Nat.le_of_ble_eq_true rfl) (fun p e s m below meth c X hW ls hl => ?_)
  have hx := X.1
  have hb := X.2.1
  have hl : lv_has ls 4 [(0, .ref (lb_ad G b0)), (1, .int x1)] := hl
  have h : (f_X7_potsOf_4 σ b0 lb_N x1 (0 : Int32) (0 : Int32)) = some qr := h
  skip
  refine lv_iconst (v := 0) hx hb dX7_potsOf_0 rfl ?_
  refine lv_istore_n (lv' := [(2, .int (0 : Int32)), (0, .ref (lb_ad G b0)), (1, .int x1)]) hx hb dX7_potsOf_1 rfl hl (by decide) rfl (fun ls hl => ?_)
  refine lv_iconst (v := 0) hx hb dX7_potsOf_2 rfl ?_
  refine lv_istore_n (lv' := [(3, .int (0 : Int32)), (2, .int (0 : Int32)), (0, .ref (lb_ad G b0)), (1, .int x1)]) hx hb dX7_potsOf_3 rfl hl (by decide) rfl (fun ls hl => ?_)
  exact w_X7_potsOf_4 X hb0 lb_N x1 (0 : Int32) (0 : Int32) _ _ _ h hW (lv_sub hl [2, 3, 1, 0] rfl)
abbrev rmX7_honestPots : Room := { frames := 0, cells := 0, slots := 0, locals := 0 }
def f_X7_honestPots_4 (σ : lb_Mem) (b0 : Nat) : Nat → Int32 → Int32 → Option Int32
  | 0, _, _ => none
  | n + 1, x1, x2 => if (σ b0 9) ≤ x2 then some x1 else lb_chk (lb_ix x2 8) (lb_chk (lb_ix x2 8) (if (σ (b0 + 11) x2.toNatClampNeg) = (σ (b0 + 10) x2.toNatClampNeg) then lb_let ((x1 ||| ((1 : Int32) <<< (x2 &&& 31)))) (fun v32 : Int32 => f_X7_honestPots_4 σ b0 n v32 (x2 + 1)) else f_X7_honestPots_4 σ b0 n x1 (x2 + 1)))
set_option maxRecDepth 20000 in
set_option maxHeartbeats 4000000 in
theorem w_X7_honestPots_4 {p : Program} {l : Launch} {e : Env} {s : State} {m : MethodId} {args : Array Value} {below : List Frame} {meth : Method} {c : Code} {G : lb_G} {σ : lb_Mem} {b0 : Nat} {qr : Int32} (X : lb_C G p s m args meth c cX7_honestPots 3 RX7 (some .int)) (hb0 : lb_V b0) : ∀ (n : Nat) (x1 : Int32) (x2 : Int32) (H : Heap) (locs : List Loc) (ls : Array Slot), f_X7_honestPots_4 σ b0 n x1 x2 = some qr → lb_W G s σ H locs → lv_has ls 3 [(0, .ref (lb_ad G b0)), (1, .int x1), (2, .int x2)] → W p l e rmX7_honestPots s m args below meth c H locs 0 0 (MQ below (lb_QI G qr σ) args s 0 0 (lb_A G)) (F0 m 4 ls []) := by
  have hx := X.1
  have hb := X.2.1
  intro n
  induction n with
  | zero => intro x1 x2 H locs ls h hW hl; exact absurd h (fun z => by cases z)
  | succ n ih =>
    intro x1 x2 H locs ls h hW hl
    have h : (if (σ b0 9) ≤ x2 then some x1 else lb_chk (lb_ix x2 8) (lb_chk (lb_ix x2 8) (if (σ (b0 + 11) x2.toNatClampNeg) = (σ (b0 + 10) x2.toNatClampNeg) then lb_let ((x1 ||| ((1 : Int32) <<< (x2 &&& 31)))) (fun v32 : Int32 => f_X7_honestPots_4 σ b0 n v32 (x2 + 1)) else f_X7_honestPots_4 σ b0 n x1 (x2 + 1)))) = some qr := h
    refine lv_iload_n hx hb dX7_honestPots_4 rfl (lv_at hl 2 rfl) ?_
    refine lv_aload_n hx hb dX7_honestPots_5 rfl (lv_at hl 0 rfl) ?_
    refine rg_X7_58 X hW hb0 dX7_honestPots_6 ?_
    refine lv_icmp_ge (tgt := 39) hx hb dX7_honestPots_9 (by decide) (fun c9 => ?_) (fun c9 => ?_)
    · have h := (if_pos c9).symm.trans h
      refine lv_iload_n hx hb dX7_honestPots_39 rfl (lv_at hl 1 rfl) ?_
      obtain rfl := Option.some.inj h
      exact lb_iret X hW dX7_honestPots_40
    · have h := (if_neg c9).symm.trans h
      refine lv_aload_n hx hb dX7_honestPots_12 rfl (lv_at hl 0 rfl) ?_
      refine rg_X7_43 (k := (b0 + 11)) X hW hb0 rfl dX7_honestPots_13 ?_
      refine lv_iload_n hx hb dX7_honestPots_16 rfl (lv_at hl 2 rfl) ?_
      obtain ⟨i17, h⟩ := lb_chk_in h
      refine lb_ild X hW (lb_Var11 hb0) i17 dX7_honestPots_17 ?_
      refine lv_aload_n hx hb dX7_honestPots_18 rfl (lv_at hl 0 rfl) ?_
      refine rg_X7_40 (k := (b0 + 10)) X hW hb0 rfl dX7_honestPots_19 ?_
      refine lv_iload_n hx hb dX7_honestPots_22 rfl (lv_at hl 2 rfl) ?_
      obtain ⟨i23, h⟩ := lb_chk_in h
      refine lb_ild X hW (lb_Var10 hb0) i23 dX7_honestPots_23 ?_
      refine lv_icmp_ne (tgt := 33) hx hb dX7_honestPots_24 (by decide) (fun c24 => ?_) (fun c24 => ?_)
      · have h := (if_neg c24).symm.trans h
        refine lv_iinc (v := (x2 + 1)) (lv' := [(2, .int (x2 + 1)), (0, .ref (lb_ad G b0)), (1, .int x1)]) hx hb dX7_honestPots_33 hl (k := 2) rfl rfl (by decide) rfl (fun ls hl => ?_)
        refine lv_goto (tgt := 4) hx hb dX7_honestPots_36 (by decide) ?_
        exact ih x1 (x2 + 1) _ _ _ h hW (lv_sub hl [1, 2, 0] rfl)
      · have h := (if_pos c24).symm.trans h
        refine lv_iload_n hx hb dX7_honestPots_27 rfl (lv_at hl 1 rfl) ?_
        refine lv_iconst (v := 1) hx hb dX7_honestPots_28 rfl ?_
        refine lv_iload_n hx hb dX7_honestPots_29 rfl (lv_at hl 2 rfl) ?_
        refine lv_ishl hx hb dX7_honestPots_30 ?_
        refine lv_ior hx hb dX7_honestPots_31 ?_
        refine lv_topi (fun v32 e32 => ?_)
        have h := lb_letI e32 h
        refine lv_istore_n (lv' := [(1, .int v32), (0, .ref (lb_ad G b0)), (2, .int x2)]) hx hb dX7_honestPots_32 rfl hl (by decide) rfl (fun ls hl => ?_)
        refine lv_iinc (v := (x2 + 1)) (lv' := [(2, .int (x2 + 1)), (1, .int v32), (0, .ref (lb_ad G b0))]) hx hb dX7_honestPots_33 hl (k := 2) rfl rfl (by decide) rfl (fun ls hl => ?_)
        refine lv_goto (tgt := 4) hx hb dX7_honestPots_36 (by decide) ?_
        exact ih v32 (x2 + 1) _ _ _ h hW (lv_sub hl [2, 1, 0] rfl)
def f_X7_honestPots (σ : lb_Mem) (b0 : Nat) : Option Int32 := f_X7_honestPots_4 σ b0 lb_N (0 : Int32) (0 : Int32)
set_option maxRecDepth 20000 in
set_option maxHeartbeats 4000000 in
theorem m_X7_honestPots (l : Launch) (G : lb_G) (σ : lb_Mem) {b0 : Nat} (hb0 : lb_V b0) (qr : Int32) (h : f_X7_honestPots σ b0 = some qr) : lb_M l yX7_honestPots cX7_honestPots 3 (some .int) rmX7_honestPots [.ref (lb_ad G b0)] G σ (lb_QI G qr σ) := by
  refine lb_start RX7 (by decide +kernel) rfl (Nat.le_of_ble_eq_true rfl) (fun p e s m below meth c X hW ls hl => ?_)
  have hx := X.1
  have hb := X.2.1
  have hl : lv_has ls 3 [(0, .ref (lb_ad G b0))] := hl
  have h : (f_X7_honestPots_4 σ b0 lb_N (0 : Int32) (0 : Int32)) = some qr := h
  skip
  refine lv_iconst (v := 0) hx hb dX7_honestPots_0 rfl ?_
  refine lv_istore_n (lv' := [(1, .int (0 : Int32)), (0, .ref (lb_ad G b0))]) hx hb dX7_honestPots_1 rfl hl (by decide) rfl (fun ls hl => ?_)
  refine lv_iconst (v := 0) hx hb dX7_honestPots_2 rfl ?_
  refine lv_istore_n (lv' := [(2, .int (0 : Int32)), (1, .int (0 : Int32)), (0, .ref (lb_ad G b0))]) hx hb dX7_honestPots_3 rfl hl (by decide) rfl (fun ls hl => ?_)
  exact w_X7_honestPots_4 X hb0 lb_N (0 : Int32) (0 : Int32) _ _ _ h hW (lv_sub hl [2, 1, 0] rfl)
abbrev rmX7_hopefulPots : Room := { frames := 0, cells := 0, slots := 0, locals := 0 }
def f_X7_hopefulPots_4 (σ : lb_Mem) (b0 : Nat) : Nat → Int32 → Int32 → Option Int32
  | 0, _, _ => none
  | n + 1, x1, x2 => if (σ b0 9) ≤ x2 then some x1 else lb_chk (lb_ix x2 8) (lb_chk (lb_ix x2 8) (lb_chk (lb_ix (σ (b0 + 13) x2.toNatClampNeg) 5) (if (σ (b0 + 11) x2.toNatClampNeg) = (σ (b0 + 14) (σ (b0 + 13) x2.toNatClampNeg).toNatClampNeg) then lb_let ((x1 ||| ((1 : Int32) <<< (x2 &&& 31)))) (fun v37 : Int32 => f_X7_hopefulPots_4 σ b0 n v37 (x2 + 1)) else f_X7_hopefulPots_4 σ b0 n x1 (x2 + 1))))
set_option maxRecDepth 20000 in
set_option maxHeartbeats 4000000 in
theorem w_X7_hopefulPots_4 {p : Program} {l : Launch} {e : Env} {s : State} {m : MethodId} {args : Array Value} {below : List Frame} {meth : Method} {c : Code} {G : lb_G} {σ : lb_Mem} {b0 : Nat} {qr : Int32} (X : lb_C G p s m args meth c cX7_hopefulPots 3 RX7 (some .int)) (hb0 : lb_V b0) : ∀ (n : Nat) (x1 : Int32) (x2 : Int32) (H : Heap) (locs : List Loc) (ls : Array Slot), f_X7_hopefulPots_4 σ b0 n x1 x2 = some qr → lb_W G s σ H locs → lv_has ls 3 [(0, .ref (lb_ad G b0)), (1, .int x1), (2, .int x2)] → W p l e rmX7_hopefulPots s m args below meth c H locs 0 0 (MQ below (lb_QI G qr σ) args s 0 0 (lb_A G)) (F0 m 4 ls []) := by
  have hx := X.1
  have hb := X.2.1
  intro n
  induction n with
  | zero => intro x1 x2 H locs ls h hW hl; exact absurd h (fun z => by cases z)
  | succ n ih =>
    intro x1 x2 H locs ls h hW hl
    have h : (if (σ b0 9) ≤ x2 then some x1 else lb_chk (lb_ix x2 8) (lb_chk (lb_ix x2 8) (lb_chk (lb_ix (σ (b0 + 13) x2.toNatClampNeg) 5) (if (σ (b0 + 11) x2.toNatClampNeg) = (σ (b0 + 14) (σ (b0 + 13) x2.toNatClampNeg).toNatClampNeg) then lb_let ((x1 ||| ((1 : Int32) <<< (x2 &&& 31)))) (fun v37 : Int32 => f_X7_hopefulPots_4 σ b0 n v37 (x2 + 1)) else f_X7_hopefulPots_4 σ b0 n x1 (x2 + 1))))) = some qr := h
    refine lv_iload_n hx hb dX7_hopefulPots_4 rfl (lv_at hl 2 rfl) ?_
    refine lv_aload_n hx hb dX7_hopefulPots_5 rfl (lv_at hl 0 rfl) ?_
    refine rg_X7_58 X hW hb0 dX7_hopefulPots_6 ?_
    refine lv_icmp_ge (tgt := 44) hx hb dX7_hopefulPots_9 (by decide) (fun c9 => ?_) (fun c9 => ?_)
    · have h := (if_pos c9).symm.trans h
      refine lv_iload_n hx hb dX7_hopefulPots_44 rfl (lv_at hl 1 rfl) ?_
      obtain rfl := Option.some.inj h
      exact lb_iret X hW dX7_hopefulPots_45
    · have h := (if_neg c9).symm.trans h
      refine lv_aload_n hx hb dX7_hopefulPots_12 rfl (lv_at hl 0 rfl) ?_
      refine rg_X7_43 (k := (b0 + 11)) X hW hb0 rfl dX7_hopefulPots_13 ?_
      refine lv_iload_n hx hb dX7_hopefulPots_16 rfl (lv_at hl 2 rfl) ?_
      obtain ⟨i17, h⟩ := lb_chk_in h
      refine lb_ild X hW (lb_Var11 hb0) i17 dX7_hopefulPots_17 ?_
      refine lv_aload_n hx hb dX7_hopefulPots_18 rfl (lv_at hl 0 rfl) ?_
      refine rg_X7_52 (k := (b0 + 14)) X hW hb0 rfl dX7_hopefulPots_19 ?_
      refine lv_aload_n hx hb dX7_hopefulPots_22 rfl (lv_at hl 0 rfl) ?_
      refine rg_X7_49 (k := (b0 + 13)) X hW hb0 rfl dX7_hopefulPots_23 ?_
      refine lv_iload_n hx hb dX7_hopefulPots_26 rfl (lv_at hl 2 rfl) ?_
      obtain ⟨i27, h⟩ := lb_chk_in h
      refine lb_ild X hW (lb_Var13 hb0) i27 dX7_hopefulPots_27 ?_
      obtain ⟨i28, h⟩ := lb_chk_in h
      refine lb_ild X hW (lb_Var14 hb0) i28 dX7_hopefulPots_28 ?_
      refine lv_icmp_ne (tgt := 38) hx hb dX7_hopefulPots_29 (by decide) (fun c29 => ?_) (fun c29 => ?_)
      · have h := (if_neg c29).symm.trans h
        refine lv_iinc (v := (x2 + 1)) (lv' := [(2, .int (x2 + 1)), (0, .ref (lb_ad G b0)), (1, .int x1)]) hx hb dX7_hopefulPots_38 hl (k := 2) rfl rfl (by decide) rfl (fun ls hl => ?_)
        refine lv_goto (tgt := 4) hx hb dX7_hopefulPots_41 (by decide) ?_
        exact ih x1 (x2 + 1) _ _ _ h hW (lv_sub hl [1, 2, 0] rfl)
      · have h := (if_pos c29).symm.trans h
        refine lv_iload_n hx hb dX7_hopefulPots_32 rfl (lv_at hl 1 rfl) ?_
        refine lv_iconst (v := 1) hx hb dX7_hopefulPots_33 rfl ?_
        refine lv_iload_n hx hb dX7_hopefulPots_34 rfl (lv_at hl 2 rfl) ?_
        refine lv_ishl hx hb dX7_hopefulPots_35 ?_
        refine lv_ior hx hb dX7_hopefulPots_36 ?_
        refine lv_topi (fun v37 e37 => ?_)
        have h := lb_letI e37 h
        refine lv_istore_n (lv' := [(1, .int v37), (0, .ref (lb_ad G b0)), (2, .int x2)]) hx hb dX7_hopefulPots_37 rfl hl (by decide) rfl (fun ls hl => ?_)
        refine lv_iinc (v := (x2 + 1)) (lv' := [(2, .int (x2 + 1)), (1, .int v37), (0, .ref (lb_ad G b0))]) hx hb dX7_hopefulPots_38 hl (k := 2) rfl rfl (by decide) rfl (fun ls hl => ?_)
        refine lv_goto (tgt := 4) hx hb dX7_hopefulPots_41 (by decide) ?_
        exact ih v37 (x2 + 1) _ _ _ h hW (lv_sub hl [2, 1, 0] rfl)
def f_X7_hopefulPots (σ : lb_Mem) (b0 : Nat) : Option Int32 := f_X7_hopefulPots_4 σ b0 lb_N (0 : Int32) (0 : Int32)
set_option maxRecDepth 20000 in
set_option maxHeartbeats 4000000 in
theorem m_X7_hopefulPots (l : Launch) (G : lb_G) (σ : lb_Mem) {b0 : Nat} (hb0 : lb_V b0) (qr : Int32) (h : f_X7_hopefulPots σ b0 = some qr) : lb_M l yX7_hopefulPots cX7_hopefulPots 3 (some .int) rmX7_hopefulPots [.ref (lb_ad G b0)] G σ (lb_QI G qr σ) := by
  refine lb_start RX7 (by decide +kernel) rfl (Nat.le_of_ble_eq_true rfl) (fun p e s m below meth c X hW ls hl => ?_)
  have hx := X.1
  have hb := X.2.1
  have hl : lv_has ls 3 [(0, .ref (lb_ad G b0))] := hl
  have h : (f_X7_hopefulPots_4 σ b0 lb_N (0 : Int32) (0 : Int32)) = some qr := h
  skip
  refine lv_iconst (v := 0) hx hb dX7_hopefulPots_0 rfl ?_
  refine lv_istore_n (lv' := [(1, .int (0 : Int32)), (0, .ref (lb_ad G b0))]) hx hb dX7_hopefulPots_1 rfl hl (by decide) rfl (fun ls hl => ?_)
  refine lv_iconst (v := 0) hx hb dX7_hopefulPots_2 rfl ?_
  refine lv_istore_n (lv' := [(2, .int (0 : Int32)), (1, .int (0 : Int32)), (0, .ref (lb_ad G b0))]) hx hb dX7_hopefulPots_3 rfl hl (by decide) rfl (fun ls hl => ?_)
  exact w_X7_hopefulPots_4 X hb0 lb_N (0 : Int32) (0 : Int32) _ _ _ h hW (lv_sub hl [2, 1, 0] rfl)
abbrev rmX7_sortsHeld : Room := { frames := 0, cells := 0, slots := 0, locals := 0 }
def f_X7_sortsHeld_4 (σ : lb_Mem) (b0 : Nat) : Nat → Int32 → Int32 → Option Int32
  | 0, _, _ => none
  | n + 1, x1, x2 => if (σ b0 9) ≤ x2 then some x1 else lb_chk (lb_ix x2 8) (if (σ (b0 + 12) x2.toNatClampNeg) ≤ 0 then f_X7_sortsHeld_4 σ b0 n x1 (x2 + 1) else lb_chk (lb_ix x2 8) (lb_let ((x1 ||| ((1 : Int32) <<< ((σ (b0 + 10) x2.toNatClampNeg) &&& 31)))) (fun v31 : Int32 => f_X7_sortsHeld_4 σ b0 n v31 (x2 + 1))))
set_option maxRecDepth 20000 in
set_option maxHeartbeats 4000000 in
theorem w_X7_sortsHeld_4 {p : Program} {l : Launch} {e : Env} {s : State} {m : MethodId} {args : Array Value} {below : List Frame} {meth : Method} {c : Code} {G : lb_G} {σ : lb_Mem} {b0 : Nat} {qr : Int32} (X : lb_C G p s m args meth c cX7_sortsHeld 3 RX7 (some .int)) (hb0 : lb_V b0) : ∀ (n : Nat) (x1 : Int32) (x2 : Int32) (H : Heap) (locs : List Loc) (ls : Array Slot), f_X7_sortsHeld_4 σ b0 n x1 x2 = some qr → lb_W G s σ H locs → lv_has ls 3 [(0, .ref (lb_ad G b0)), (1, .int x1), (2, .int x2)] → W p l e rmX7_sortsHeld s m args below meth c H locs 0 0 (MQ below (lb_QI G qr σ) args s 0 0 (lb_A G)) (F0 m 4 ls []) := by
  have hx := X.1
  have hb := X.2.1
  intro n
  induction n with
  | zero => intro x1 x2 H locs ls h hW hl; exact absurd h (fun z => by cases z)
  | succ n ih =>
    intro x1 x2 H locs ls h hW hl
    have h : (if (σ b0 9) ≤ x2 then some x1 else lb_chk (lb_ix x2 8) (if (σ (b0 + 12) x2.toNatClampNeg) ≤ 0 then f_X7_sortsHeld_4 σ b0 n x1 (x2 + 1) else lb_chk (lb_ix x2 8) (lb_let ((x1 ||| ((1 : Int32) <<< ((σ (b0 + 10) x2.toNatClampNeg) &&& 31)))) (fun v31 : Int32 => f_X7_sortsHeld_4 σ b0 n v31 (x2 + 1))))) = some qr := h
    refine lv_iload_n hx hb dX7_sortsHeld_4 rfl (lv_at hl 2 rfl) ?_
    refine lv_aload_n hx hb dX7_sortsHeld_5 rfl (lv_at hl 0 rfl) ?_
    refine rg_X7_58 X hW hb0 dX7_sortsHeld_6 ?_
    refine lv_icmp_ge (tgt := 38) hx hb dX7_sortsHeld_9 (by decide) (fun c9 => ?_) (fun c9 => ?_)
    · have h := (if_pos c9).symm.trans h
      refine lv_iload_n hx hb dX7_sortsHeld_38 rfl (lv_at hl 1 rfl) ?_
      obtain rfl := Option.some.inj h
      exact lb_iret X hW dX7_sortsHeld_39
    · have h := (if_neg c9).symm.trans h
      refine lv_aload_n hx hb dX7_sortsHeld_12 rfl (lv_at hl 0 rfl) ?_
      refine rg_X7_46 (k := (b0 + 12)) X hW hb0 rfl dX7_sortsHeld_13 ?_
      refine lv_iload_n hx hb dX7_sortsHeld_16 rfl (lv_at hl 2 rfl) ?_
      obtain ⟨i17, h⟩ := lb_chk_in h
      refine lb_ild X hW (lb_Var12 hb0) i17 dX7_sortsHeld_17 ?_
      refine lv_if_le (tgt := 32) hx hb dX7_sortsHeld_18 (by decide) (fun c18 => ?_) (fun c18 => ?_)
      · have h := (if_pos c18).symm.trans h
        refine lv_iinc (v := (x2 + 1)) (lv' := [(2, .int (x2 + 1)), (0, .ref (lb_ad G b0)), (1, .int x1)]) hx hb dX7_sortsHeld_32 hl (k := 2) rfl rfl (by decide) rfl (fun ls hl => ?_)
        refine lv_goto (tgt := 4) hx hb dX7_sortsHeld_35 (by decide) ?_
        exact ih x1 (x2 + 1) _ _ _ h hW (lv_sub hl [1, 2, 0] rfl)
      · have h := (if_neg c18).symm.trans h
        refine lv_iload_n hx hb dX7_sortsHeld_21 rfl (lv_at hl 1 rfl) ?_
        refine lv_iconst (v := 1) hx hb dX7_sortsHeld_22 rfl ?_
        refine lv_aload_n hx hb dX7_sortsHeld_23 rfl (lv_at hl 0 rfl) ?_
        refine rg_X7_40 (k := (b0 + 10)) X hW hb0 rfl dX7_sortsHeld_24 ?_
        refine lv_iload_n hx hb dX7_sortsHeld_27 rfl (lv_at hl 2 rfl) ?_
        obtain ⟨i28, h⟩ := lb_chk_in h
        refine lb_ild X hW (lb_Var10 hb0) i28 dX7_sortsHeld_28 ?_
        refine lv_ishl hx hb dX7_sortsHeld_29 ?_
        refine lv_ior hx hb dX7_sortsHeld_30 ?_
        refine lv_topi (fun v31 e31 => ?_)
        have h := lb_letI e31 h
        refine lv_istore_n (lv' := [(1, .int v31), (0, .ref (lb_ad G b0)), (2, .int x2)]) hx hb dX7_sortsHeld_31 rfl hl (by decide) rfl (fun ls hl => ?_)
        refine lv_iinc (v := (x2 + 1)) (lv' := [(2, .int (x2 + 1)), (1, .int v31), (0, .ref (lb_ad G b0))]) hx hb dX7_sortsHeld_32 hl (k := 2) rfl rfl (by decide) rfl (fun ls hl => ?_)
        refine lv_goto (tgt := 4) hx hb dX7_sortsHeld_35 (by decide) ?_
        exact ih v31 (x2 + 1) _ _ _ h hW (lv_sub hl [2, 1, 0] rfl)
def f_X7_sortsHeld (σ : lb_Mem) (b0 : Nat) : Option Int32 := f_X7_sortsHeld_4 σ b0 lb_N (0 : Int32) (0 : Int32)
set_option maxRecDepth 20000 in
set_option maxHeartbeats 4000000 in
theorem m_X7_sortsHeld (l : Launch) (G : lb_G) (σ : lb_Mem) {b0 : Nat} (hb0 : lb_V b0) (qr : Int32) (h : f_X7_sortsHeld σ b0 = some qr) : lb_M l yX7_sortsHeld cX7_sortsHeld 3 (some .int) rmX7_sortsHeld [.ref (lb_ad G b0)] G σ (lb_QI G qr σ) := by
  refine lb_start RX7 (by decide +kernel) rfl (Nat.le_of_ble_eq_true rfl) (fun p e s m below meth c X hW ls hl => ?_)
  have hx := X.1
  have hb := X.2.1
  have hl : lv_has ls 3 [(0, .ref (lb_ad G b0))] := hl
  have h : (f_X7_sortsHeld_4 σ b0 lb_N (0 : Int32) (0 : Int32)) = some qr := h
  skip
  refine lv_iconst (v := 0) hx hb dX7_sortsHeld_0 rfl ?_
  refine lv_istore_n (lv' := [(1, .int (0 : Int32)), (0, .ref (lb_ad G b0))]) hx hb dX7_sortsHeld_1 rfl hl (by decide) rfl (fun ls hl => ?_)
  refine lv_iconst (v := 0) hx hb dX7_sortsHeld_2 rfl ?_
  refine lv_istore_n (lv' := [(2, .int (0 : Int32)), (1, .int (0 : Int32)), (0, .ref (lb_ad G b0))]) hx hb dX7_sortsHeld_3 rfl hl (by decide) rfl (fun ls hl => ?_)
  exact w_X7_sortsHeld_4 X hb0 lb_N (0 : Int32) (0 : Int32) _ _ _ h hW (lv_sub hl [2, 1, 0] rfl)
abbrev rmX7_sortsOnLabels : Room := { frames := 0, cells := 0, slots := 0, locals := 0 }
def f_X7_sortsOnLabels_4 (σ : lb_Mem) (b0 : Nat) : Nat → Int32 → Int32 → Option Int32
  | 0, _, _ => none
  | n + 1, x1, x2 => if (σ b0 9) ≤ x2 then some x1 else lb_chk (lb_ix x2 8) (if (σ (b0 + 11) x2.toNatClampNeg) = (6 : Int32) then f_X7_sortsOnLabels_4 σ b0 n x1 (x2 + 1) else lb_chk (lb_ix x2 8) (lb_let ((x1 ||| ((1 : Int32) <<< ((σ (b0 + 11) x2.toNatClampNeg) &&& 31)))) (fun v33 : Int32 => f_X7_sortsOnLabels_4 σ b0 n v33 (x2 + 1))))
set_option maxRecDepth 20000 in
set_option maxHeartbeats 4000000 in
theorem w_X7_sortsOnLabels_4 {p : Program} {l : Launch} {e : Env} {s : State} {m : MethodId} {args : Array Value} {below : List Frame} {meth : Method} {c : Code} {G : lb_G} {σ : lb_Mem} {b0 : Nat} {qr : Int32} (X : lb_C G p s m args meth c cX7_sortsOnLabels 3 RX7 (some .int)) (hb0 : lb_V b0) : ∀ (n : Nat) (x1 : Int32) (x2 : Int32) (H : Heap) (locs : List Loc) (ls : Array Slot), f_X7_sortsOnLabels_4 σ b0 n x1 x2 = some qr → lb_W G s σ H locs → lv_has ls 3 [(0, .ref (lb_ad G b0)), (1, .int x1), (2, .int x2)] → W p l e rmX7_sortsOnLabels s m args below meth c H locs 0 0 (MQ below (lb_QI G qr σ) args s 0 0 (lb_A G)) (F0 m 4 ls []) := by
  have hx := X.1
  have hb := X.2.1
  intro n
  induction n with
  | zero => intro x1 x2 H locs ls h hW hl; exact absurd h (fun z => by cases z)
  | succ n ih =>
    intro x1 x2 H locs ls h hW hl
    have h : (if (σ b0 9) ≤ x2 then some x1 else lb_chk (lb_ix x2 8) (if (σ (b0 + 11) x2.toNatClampNeg) = (6 : Int32) then f_X7_sortsOnLabels_4 σ b0 n x1 (x2 + 1) else lb_chk (lb_ix x2 8) (lb_let ((x1 ||| ((1 : Int32) <<< ((σ (b0 + 11) x2.toNatClampNeg) &&& 31)))) (fun v33 : Int32 => f_X7_sortsOnLabels_4 σ b0 n v33 (x2 + 1))))) = some qr := h
    refine lv_iload_n hx hb dX7_sortsOnLabels_4 rfl (lv_at hl 2 rfl) ?_
    refine lv_aload_n hx hb dX7_sortsOnLabels_5 rfl (lv_at hl 0 rfl) ?_
    refine rg_X7_58 X hW hb0 dX7_sortsOnLabels_6 ?_
    refine lv_icmp_ge (tgt := 40) hx hb dX7_sortsOnLabels_9 (by decide) (fun c9 => ?_) (fun c9 => ?_)
    · have h := (if_pos c9).symm.trans h
      refine lv_iload_n hx hb dX7_sortsOnLabels_40 rfl (lv_at hl 1 rfl) ?_
      obtain rfl := Option.some.inj h
      exact lb_iret X hW dX7_sortsOnLabels_41
    · have h := (if_neg c9).symm.trans h
      refine lv_aload_n hx hb dX7_sortsOnLabels_12 rfl (lv_at hl 0 rfl) ?_
      refine rg_X7_43 (k := (b0 + 11)) X hW hb0 rfl dX7_sortsOnLabels_13 ?_
      refine lv_iload_n hx hb dX7_sortsOnLabels_16 rfl (lv_at hl 2 rfl) ?_
      obtain ⟨i17, h⟩ := lb_chk_in h
      refine lb_ild X hW (lb_Var11 hb0) i17 dX7_sortsOnLabels_17 ?_
      refine lv_bipush (v := 6) hx hb dX7_sortsOnLabels_18 rfl ?_
      refine lv_icmp_eq (tgt := 34) hx hb dX7_sortsOnLabels_20 (by decide) (fun c20 => ?_) (fun c20 => ?_)
      · have h := (if_pos c20).symm.trans h
        refine lv_iinc (v := (x2 + 1)) (lv' := [(2, .int (x2 + 1)), (0, .ref (lb_ad G b0)), (1, .int x1)]) hx hb dX7_sortsOnLabels_34 hl (k := 2) rfl rfl (by decide) rfl (fun ls hl => ?_)
        refine lv_goto (tgt := 4) hx hb dX7_sortsOnLabels_37 (by decide) ?_
        exact ih x1 (x2 + 1) _ _ _ h hW (lv_sub hl [1, 2, 0] rfl)
      · have h := (if_neg c20).symm.trans h
        refine lv_iload_n hx hb dX7_sortsOnLabels_23 rfl (lv_at hl 1 rfl) ?_
        refine lv_iconst (v := 1) hx hb dX7_sortsOnLabels_24 rfl ?_
        refine lv_aload_n hx hb dX7_sortsOnLabels_25 rfl (lv_at hl 0 rfl) ?_
        refine rg_X7_43 (k := (b0 + 11)) X hW hb0 rfl dX7_sortsOnLabels_26 ?_
        refine lv_iload_n hx hb dX7_sortsOnLabels_29 rfl (lv_at hl 2 rfl) ?_
        obtain ⟨i30, h⟩ := lb_chk_in h
        refine lb_ild X hW (lb_Var11 hb0) i30 dX7_sortsOnLabels_30 ?_
        refine lv_ishl hx hb dX7_sortsOnLabels_31 ?_
        refine lv_ior hx hb dX7_sortsOnLabels_32 ?_
        refine lv_topi (fun v33 e33 => ?_)
        have h := lb_letI e33 h
        refine lv_istore_n (lv' := [(1, .int v33), (0, .ref (lb_ad G b0)), (2, .int x2)]) hx hb dX7_sortsOnLabels_33 rfl hl (by decide) rfl (fun ls hl => ?_)
        refine lv_iinc (v := (x2 + 1)) (lv' := [(2, .int (x2 + 1)), (1, .int v33), (0, .ref (lb_ad G b0))]) hx hb dX7_sortsOnLabels_34 hl (k := 2) rfl rfl (by decide) rfl (fun ls hl => ?_)
        refine lv_goto (tgt := 4) hx hb dX7_sortsOnLabels_37 (by decide) ?_
        exact ih v33 (x2 + 1) _ _ _ h hW (lv_sub hl [2, 1, 0] rfl)
def f_X7_sortsOnLabels (σ : lb_Mem) (b0 : Nat) : Option Int32 := f_X7_sortsOnLabels_4 σ b0 lb_N (0 : Int32) (0 : Int32)
set_option maxRecDepth 20000 in
set_option maxHeartbeats 4000000 in
theorem m_X7_sortsOnLabels (l : Launch) (G : lb_G) (σ : lb_Mem) {b0 : Nat} (hb0 : lb_V b0) (qr : Int32) (h : f_X7_sortsOnLabels σ b0 = some qr) : lb_M l yX7_sortsOnLabels cX7_sortsOnLabels 3 (some .int) rmX7_sortsOnLabels [.ref (lb_ad G b0)] G σ (lb_QI G qr σ) := by
  refine lb_start RX7 (by decide +kernel) rfl (Nat.le_of_ble_eq_true rfl) (fun p e s m below meth c X hW ls hl => ?_)
  have hx := X.1
  have hb := X.2.1
  have hl : lv_has ls 3 [(0, .ref (lb_ad G b0))] := hl
  have h : (f_X7_sortsOnLabels_4 σ b0 lb_N (0 : Int32) (0 : Int32)) = some qr := h
  skip
  refine lv_iconst (v := 0) hx hb dX7_sortsOnLabels_0 rfl ?_
  refine lv_istore_n (lv' := [(1, .int (0 : Int32)), (0, .ref (lb_ad G b0))]) hx hb dX7_sortsOnLabels_1 rfl hl (by decide) rfl (fun ls hl => ?_)
  refine lv_iconst (v := 0) hx hb dX7_sortsOnLabels_2 rfl ?_
  refine lv_istore_n (lv' := [(2, .int (0 : Int32)), (1, .int (0 : Int32)), (0, .ref (lb_ad G b0))]) hx hb dX7_sortsOnLabels_3 rfl hl (by decide) rfl (fun ls hl => ?_)
  exact w_X7_sortsOnLabels_4 X hb0 lb_N (0 : Int32) (0 : Int32) _ _ _ h hW (lv_sub hl [2, 1, 0] rfl)
abbrev rmX7_spoonsOf : Room := { frames := 0, cells := 0, slots := 0, locals := 0 }
def f_X7_spoonsOf_4 (σ : lb_Mem) (b0 : Nat) : Nat → Int32 → Int32 → Int32 → Option Int32
  | 0, _, _, _ => none
  | n + 1, x1, x2, x3 => if (σ b0 9) ≤ x3 then some x2 else lb_chk (lb_ix x3 8) (if (σ (b0 + 10) x3.toNatClampNeg) = x1 then lb_chk (lb_ix x3 8) (lb_let ((x2 + (σ (b0 + 12) x3.toNatClampNeg))) (fun v30 : Int32 => f_X7_spoonsOf_4 σ b0 n x1 v30 (x3 + 1))) else f_X7_spoonsOf_4 σ b0 n x1 x2 (x3 + 1))
set_option maxRecDepth 20000 in
set_option maxHeartbeats 4000000 in
theorem w_X7_spoonsOf_4 {p : Program} {l : Launch} {e : Env} {s : State} {m : MethodId} {args : Array Value} {below : List Frame} {meth : Method} {c : Code} {G : lb_G} {σ : lb_Mem} {b0 : Nat} {qr : Int32} (X : lb_C G p s m args meth c cX7_spoonsOf 4 RX7 (some .int)) (hb0 : lb_V b0) : ∀ (n : Nat) (x1 : Int32) (x2 : Int32) (x3 : Int32) (H : Heap) (locs : List Loc) (ls : Array Slot), f_X7_spoonsOf_4 σ b0 n x1 x2 x3 = some qr → lb_W G s σ H locs → lv_has ls 4 [(0, .ref (lb_ad G b0)), (1, .int x1), (2, .int x2), (3, .int x3)] → W p l e rmX7_spoonsOf s m args below meth c H locs 0 0 (MQ below (lb_QI G qr σ) args s 0 0 (lb_A G)) (F0 m 4 ls []) := by
  have hx := X.1
  have hb := X.2.1
  intro n
  induction n with
  | zero => intro x1 x2 x3 H locs ls h hW hl; exact absurd h (fun z => by cases z)
  | succ n ih =>
    intro x1 x2 x3 H locs ls h hW hl
    have h : (if (σ b0 9) ≤ x3 then some x2 else lb_chk (lb_ix x3 8) (if (σ (b0 + 10) x3.toNatClampNeg) = x1 then lb_chk (lb_ix x3 8) (lb_let ((x2 + (σ (b0 + 12) x3.toNatClampNeg))) (fun v30 : Int32 => f_X7_spoonsOf_4 σ b0 n x1 v30 (x3 + 1))) else f_X7_spoonsOf_4 σ b0 n x1 x2 (x3 + 1))) = some qr := h
    refine lv_iload_n hx hb dX7_spoonsOf_4 rfl (lv_at hl 3 rfl) ?_
    refine lv_aload_n hx hb dX7_spoonsOf_5 rfl (lv_at hl 0 rfl) ?_
    refine rg_X7_58 X hW hb0 dX7_spoonsOf_6 ?_
    refine lv_icmp_ge (tgt := 37) hx hb dX7_spoonsOf_9 (by decide) (fun c9 => ?_) (fun c9 => ?_)
    · have h := (if_pos c9).symm.trans h
      refine lv_iload_n hx hb dX7_spoonsOf_37 rfl (lv_at hl 2 rfl) ?_
      obtain rfl := Option.some.inj h
      exact lb_iret X hW dX7_spoonsOf_38
    · have h := (if_neg c9).symm.trans h
      refine lv_aload_n hx hb dX7_spoonsOf_12 rfl (lv_at hl 0 rfl) ?_
      refine rg_X7_40 (k := (b0 + 10)) X hW hb0 rfl dX7_spoonsOf_13 ?_
      refine lv_iload_n hx hb dX7_spoonsOf_16 rfl (lv_at hl 3 rfl) ?_
      obtain ⟨i17, h⟩ := lb_chk_in h
      refine lb_ild X hW (lb_Var10 hb0) i17 dX7_spoonsOf_17 ?_
      refine lv_iload_n hx hb dX7_spoonsOf_18 rfl (lv_at hl 1 rfl) ?_
      refine lv_icmp_ne (tgt := 31) hx hb dX7_spoonsOf_19 (by decide) (fun c19 => ?_) (fun c19 => ?_)
      · have h := (if_neg c19).symm.trans h
        refine lv_iinc (v := (x3 + 1)) (lv' := [(3, .int (x3 + 1)), (0, .ref (lb_ad G b0)), (1, .int x1), (2, .int x2)]) hx hb dX7_spoonsOf_31 hl (k := 3) rfl rfl (by decide) rfl (fun ls hl => ?_)
        refine lv_goto (tgt := 4) hx hb dX7_spoonsOf_34 (by decide) ?_
        exact ih x1 x2 (x3 + 1) _ _ _ h hW (lv_sub hl [1, 2, 3, 0] rfl)
      · have h := (if_pos c19).symm.trans h
        refine lv_iload_n hx hb dX7_spoonsOf_22 rfl (lv_at hl 2 rfl) ?_
        refine lv_aload_n hx hb dX7_spoonsOf_23 rfl (lv_at hl 0 rfl) ?_
        refine rg_X7_46 (k := (b0 + 12)) X hW hb0 rfl dX7_spoonsOf_24 ?_
        refine lv_iload_n hx hb dX7_spoonsOf_27 rfl (lv_at hl 3 rfl) ?_
        obtain ⟨i28, h⟩ := lb_chk_in h
        refine lb_ild X hW (lb_Var12 hb0) i28 dX7_spoonsOf_28 ?_
        refine lv_iadd hx hb dX7_spoonsOf_29 ?_
        refine lv_topi (fun v30 e30 => ?_)
        have h := lb_letI e30 h
        refine lv_istore_n (lv' := [(2, .int v30), (0, .ref (lb_ad G b0)), (1, .int x1), (3, .int x3)]) hx hb dX7_spoonsOf_30 rfl hl (by decide) rfl (fun ls hl => ?_)
        refine lv_iinc (v := (x3 + 1)) (lv' := [(3, .int (x3 + 1)), (2, .int v30), (0, .ref (lb_ad G b0)), (1, .int x1)]) hx hb dX7_spoonsOf_31 hl (k := 3) rfl rfl (by decide) rfl (fun ls hl => ?_)
        refine lv_goto (tgt := 4) hx hb dX7_spoonsOf_34 (by decide) ?_
        exact ih x1 v30 (x3 + 1) _ _ _ h hW (lv_sub hl [2, 3, 1, 0] rfl)
def f_X7_spoonsOf (σ : lb_Mem) (b0 : Nat) (x1 : Int32) : Option Int32 := f_X7_spoonsOf_4 σ b0 lb_N x1 (0 : Int32) (0 : Int32)
set_option maxRecDepth 20000 in
set_option maxHeartbeats 4000000 in
theorem m_X7_spoonsOf (l : Launch) (G : lb_G) (σ : lb_Mem) {b0 : Nat} (hb0 : lb_V b0) (x1 : Int32) (qr : Int32) (h : f_X7_spoonsOf σ b0 x1 = some qr) : lb_M l yX7_spoonsOf cX7_spoonsOf 4 (some .int) rmX7_spoonsOf [.ref (lb_ad G b0), .int x1] G σ (lb_QI G qr σ) := by
  refine lb_start RX7 (by decide +kernel) rfl (Nat.le_of_ble_eq_true rfl) (fun p e s m below meth c X hW ls hl => ?_)
  have hx := X.1
  have hb := X.2.1
  have hl : lv_has ls 4 [(0, .ref (lb_ad G b0)), (1, .int x1)] := hl
  have h : (f_X7_spoonsOf_4 σ b0 lb_N x1 (0 : Int32) (0 : Int32)) = some qr := h
  skip
  refine lv_iconst (v := 0) hx hb dX7_spoonsOf_0 rfl ?_
  refine lv_istore_n (lv' := [(2, .int (0 : Int32)), (0, .ref (lb_ad G b0)), (1, .int x1)]) hx hb dX7_spoonsOf_1 rfl hl (by decide) rfl (fun ls hl => ?_)
  refine lv_iconst (v := 0) hx hb dX7_spoonsOf_2 rfl ?_
  refine lv_istore_n (lv' := [(3, .int (0 : Int32)), (2, .int (0 : Int32)), (0, .ref (lb_ad G b0)), (1, .int x1)]) hx hb dX7_spoonsOf_3 rfl hl (by decide) rfl (fun ls hl => ?_)
  exact w_X7_spoonsOf_4 X hb0 lb_N x1 (0 : Int32) (0 : Int32) _ _ _ h hW (lv_sub hl [2, 3, 1, 0] rfl)
theorem rc_X7_112 {p : Program} {l : Launch} {e : Env} {R : Room} {s : State} {m : MethodId} {args : Array Value} {below : List Frame} {meth : Method} {c : Code} {H : Heap} {locs : List Loc} {cells slots : Nat} {Q : State → Prop} {cc : ByteArray} {pc nL : Nat} {ls : Array Slot} {rest : List Value} {G : lb_G} {σ : lb_Mem} {ret : Option FieldType} (X : lb_C G p s m args meth c cc nL RX7 ret) (hW : lb_W G s σ H locs) {b0 : Nat} (hb0 : lb_V b0) {x1 : Int32} {qr : Int32} (h : f_X7_spoonsOf σ b0 x1 = some qr) (hR : lb_room rmX7_spoonsOf R 4) (hls : ls.size = nL) (hrest : (rest.map fun v => v.category).sum ≤ 8) (d : decode cc pc = .ok (.invokevirtual 112, 3)) (hcap : cells ≤ R.cells ∧ slots ≤ R.slots) (kk : ∀ (H1 : Heap) (locs1 : List Loc), lb_W G s σ H1 locs1 → W p l e R s m args below meth c H1 locs1 cells slots Q (F0 m (pc + 3) ls (.int qr :: rest))) : W p l e R s m args below meth c H locs cells slots Q (F0 m pc ls (.int x1 :: .ref (lb_ad G b0) :: rest)) :=
  lb_goI hW (lb_runV (As := [.int x1]) X hW (m_X7_spoonsOf l G σ hb0 x1 qr h) (n := 1) ⟨qw_624, qw_44, qw_627, by decide +kernel⟩ hR qw_625 qw_626 (lb_isV hb0) rfl hls hrest d hcap) kk
abbrev rmX7_mostHeld : Room := { frames := 1, cells := 0, slots := 0, locals := 23 }
def f_X7_mostHeld_4 (σ : lb_Mem) (b0 : Nat) : Nat → Int32 → Int32 → Option Int32
  | 0, _, _ => none
  | n + 1, x1, x2 => if (6 : Int32) ≤ x2 then some x1 else (f_X7_spoonsOf σ b0 x2).bind (fun q12 => (f_X7_spoonsOf σ b0 x1).bind (fun q17 => if q12 ≤ q17 then f_X7_mostHeld_4 σ b0 n x1 (x2 + 1) else f_X7_mostHeld_4 σ b0 n x2 (x2 + 1)))
set_option maxRecDepth 20000 in
set_option maxHeartbeats 4000000 in
theorem w_X7_mostHeld_4 {p : Program} {l : Launch} {e : Env} {s : State} {m : MethodId} {args : Array Value} {below : List Frame} {meth : Method} {c : Code} {G : lb_G} {σ : lb_Mem} {b0 : Nat} {qr : Int32} (X : lb_C G p s m args meth c cX7_mostHeld 3 RX7 (some .int)) (hb0 : lb_V b0) : ∀ (n : Nat) (x1 : Int32) (x2 : Int32) (H : Heap) (locs : List Loc) (ls : Array Slot), f_X7_mostHeld_4 σ b0 n x1 x2 = some qr → lb_W G s σ H locs → lv_has ls 3 [(0, .ref (lb_ad G b0)), (1, .int x1), (2, .int x2)] → W p l e rmX7_mostHeld s m args below meth c H locs 0 0 (MQ below (lb_QI G qr σ) args s 0 0 (lb_A G)) (F0 m 4 ls []) := by
  have hx := X.1
  have hb := X.2.1
  intro n
  induction n with
  | zero => intro x1 x2 H locs ls h hW hl; exact absurd h (fun z => by cases z)
  | succ n ih =>
    intro x1 x2 H locs ls h hW hl
    have h : (if (6 : Int32) ≤ x2 then some x1 else (f_X7_spoonsOf σ b0 x2).bind (fun q12 => (f_X7_spoonsOf σ b0 x1).bind (fun q17 => if q12 ≤ q17 then f_X7_mostHeld_4 σ b0 n x1 (x2 + 1) else f_X7_mostHeld_4 σ b0 n x2 (x2 + 1)))) = some qr := h
    refine lv_iload_n hx hb dX7_mostHeld_4 rfl (lv_at hl 2 rfl) ?_
    refine lv_bipush (v := 6) hx hb dX7_mostHeld_5 rfl ?_
    refine lv_icmp_ge (tgt := 31) hx hb dX7_mostHeld_7 (by decide) (fun c7 => ?_) (fun c7 => ?_)
    · have h := (if_pos c7).symm.trans h
      refine lv_iload_n hx hb dX7_mostHeld_31 rfl (lv_at hl 1 rfl) ?_
      obtain rfl := Option.some.inj h
      exact lb_iret X hW dX7_mostHeld_32
    · have h := (if_neg c7).symm.trans h
      refine lv_aload_n hx hb dX7_mostHeld_10 rfl (lv_at hl 0 rfl) ?_
      refine lv_iload_n hx hb dX7_mostHeld_11 rfl (lv_at hl 2 rfl) ?_
      obtain ⟨q12, e12, h⟩ := lb_bind h
      refine rc_X7_112 X hW hb0 e12 ⟨⟨rfl, rfl⟩, Nat.le_of_ble_eq_true rfl, Nat.le_of_ble_eq_true rfl⟩ hl.1 (Nat.le_of_ble_eq_true rfl) dX7_mostHeld_12 ⟨Nat.zero_le _, Nat.zero_le _⟩ (fun H locs hW => ?_)
      refine lv_aload_n hx hb dX7_mostHeld_15 rfl (lv_at hl 0 rfl) ?_
      refine lv_iload_n hx hb dX7_mostHeld_16 rfl (lv_at hl 1 rfl) ?_
      obtain ⟨q17, e17, h⟩ := lb_bind h
      refine rc_X7_112 X hW hb0 e17 ⟨⟨rfl, rfl⟩, Nat.le_of_ble_eq_true rfl, Nat.le_of_ble_eq_true rfl⟩ hl.1 (Nat.le_of_ble_eq_true rfl) dX7_mostHeld_17 ⟨Nat.zero_le _, Nat.zero_le _⟩ (fun H locs hW => ?_)
      refine lv_icmp_le (tgt := 25) hx hb dX7_mostHeld_20 (by decide) (fun c20 => ?_) (fun c20 => ?_)
      · have h := (if_pos c20).symm.trans h
        refine lv_iinc (v := (x2 + 1)) (lv' := [(2, .int (x2 + 1)), (0, .ref (lb_ad G b0)), (1, .int x1)]) hx hb dX7_mostHeld_25 hl (k := 2) rfl rfl (by decide) rfl (fun ls hl => ?_)
        refine lv_goto (tgt := 4) hx hb dX7_mostHeld_28 (by decide) ?_
        exact ih x1 (x2 + 1) _ _ _ h hW (lv_sub hl [1, 2, 0] rfl)
      · have h := (if_neg c20).symm.trans h
        refine lv_iload_n hx hb dX7_mostHeld_23 rfl (lv_at hl 2 rfl) ?_
        refine lv_istore_n (lv' := [(1, .int x2), (0, .ref (lb_ad G b0)), (2, .int x2)]) hx hb dX7_mostHeld_24 rfl hl (by decide) rfl (fun ls hl => ?_)
        refine lv_iinc (v := (x2 + 1)) (lv' := [(2, .int (x2 + 1)), (1, .int x2), (0, .ref (lb_ad G b0))]) hx hb dX7_mostHeld_25 hl (k := 2) rfl rfl (by decide) rfl (fun ls hl => ?_)
        refine lv_goto (tgt := 4) hx hb dX7_mostHeld_28 (by decide) ?_
        exact ih x2 (x2 + 1) _ _ _ h hW (lv_sub hl [2, 1, 0] rfl)
def f_X7_mostHeld (σ : lb_Mem) (b0 : Nat) : Option Int32 := f_X7_mostHeld_4 σ b0 lb_N (0 : Int32) (1 : Int32)
set_option maxRecDepth 20000 in
set_option maxHeartbeats 4000000 in
theorem m_X7_mostHeld (l : Launch) (G : lb_G) (σ : lb_Mem) {b0 : Nat} (hb0 : lb_V b0) (qr : Int32) (h : f_X7_mostHeld σ b0 = some qr) : lb_M l yX7_mostHeld cX7_mostHeld 3 (some .int) rmX7_mostHeld [.ref (lb_ad G b0)] G σ (lb_QI G qr σ) := by
  refine lb_start RX7 (by decide +kernel) rfl (Nat.le_of_ble_eq_true rfl) (fun p e s m below meth c X hW ls hl => ?_)
  have hx := X.1
  have hb := X.2.1
  have hl : lv_has ls 3 [(0, .ref (lb_ad G b0))] := hl
  have h : (f_X7_mostHeld_4 σ b0 lb_N (0 : Int32) (1 : Int32)) = some qr := h
  skip
  refine lv_iconst (v := 0) hx hb dX7_mostHeld_0 rfl ?_
  refine lv_istore_n (lv' := [(1, .int (0 : Int32)), (0, .ref (lb_ad G b0))]) hx hb dX7_mostHeld_1 rfl hl (by decide) rfl (fun ls hl => ?_)
  refine lv_iconst (v := 1) hx hb dX7_mostHeld_2 rfl ?_
  refine lv_istore_n (lv' := [(2, .int (1 : Int32)), (1, .int (0 : Int32)), (0, .ref (lb_ad G b0))]) hx hb dX7_mostHeld_3 rfl hl (by decide) rfl (fun ls hl => ?_)
  exact w_X7_mostHeld_4 X hb0 lb_N (0 : Int32) (1 : Int32) _ _ _ h hW (lv_sub hl [2, 1, 0] rfl)
abbrev rmX8_within : Room := { frames := 0, cells := 0, slots := 0, locals := 0 }
def f_X8_within (x0 : Int32) (x1 : Int32) (x2 : Int32) : Int32 := if x1 ≤ x0 then if x0 ≤ x2 then (0 : Int32) else (-6 : Int32) else (-4 : Int32)
set_option maxRecDepth 20000 in
set_option maxHeartbeats 4000000 in
theorem m_X8_within (l : Launch) (G : lb_G) (σ : lb_Mem) (x0 : Int32) (x1 : Int32) (x2 : Int32) (qr : Int32) (h : f_X8_within x0 x1 x2 = qr) : lb_M l yX8_within cX8_within 3 (some .int) rmX8_within [.int x0, .int x1, .int x2] G σ (lb_QI G qr σ) := by
  refine lb_start RX8 (by decide +kernel) rfl (Nat.le_of_ble_eq_true rfl) (fun p e s m below meth c X hW ls hl => ?_)
  have hx := X.1
  have hb := X.2.1
  have hl : lv_has ls 3 [(0, .int x0), (1, .int x1), (2, .int x2)] := hl
  have h : (if x1 ≤ x0 then if x0 ≤ x2 then (0 : Int32) else (-6 : Int32) else (-4 : Int32)) = qr := h
  skip
  refine lv_iload_n hx hb dX8_within_0 rfl (lv_at hl 0 rfl) ?_
  refine lv_iload_n hx hb dX8_within_1 rfl (lv_at hl 1 rfl) ?_
  refine lv_icmp_ge (tgt := 8) hx hb dX8_within_2 (by decide) (fun c2 => ?_) (fun c2 => ?_)
  · have h := (if_pos c2).symm.trans h
    refine lv_iload_n hx hb dX8_within_8 rfl (lv_at hl 0 rfl) ?_
    refine lv_iload_n hx hb dX8_within_9 rfl (lv_at hl 2 rfl) ?_
    refine lv_icmp_le (tgt := 18) hx hb dX8_within_10 (by decide) (fun c10 => ?_) (fun c10 => ?_)
    · have h := (if_pos c10).symm.trans h
      refine lv_iconst (v := 0) hx hb dX8_within_18 rfl ?_
      subst h
      exact lb_iret X hW dX8_within_19
    · have h := (if_neg c10).symm.trans h
      refine lv_bipush (v := -6) hx hb dX8_within_13 rfl ?_
      refine lv_goto (tgt := 19) hx hb dX8_within_15 (by decide) ?_
      subst h
      exact lb_iret X hW dX8_within_19
  · have h := (if_neg c2).symm.trans h
    refine lv_bipush (v := -4) hx hb dX8_within_5 rfl ?_
    subst h
    exact lb_iret X hW dX8_within_7
abbrev rmX8_first : Room := { frames := 0, cells := 0, slots := 0, locals := 0 }
def f_X8_first (x0 : Int32) (x1 : Int32) : Int32 := if x0 = 0 then x1 else x0
set_option maxRecDepth 20000 in
set_option maxHeartbeats 4000000 in
theorem m_X8_first (l : Launch) (G : lb_G) (σ : lb_Mem) (x0 : Int32) (x1 : Int32) (qr : Int32) (h : f_X8_first x0 x1 = qr) : lb_M l yX8_first cX8_first 2 (some .int) rmX8_first [.int x0, .int x1] G σ (lb_QI G qr σ) := by
  refine lb_start RX8 (by decide +kernel) rfl (Nat.le_of_ble_eq_true rfl) (fun p e s m below meth c X hW ls hl => ?_)
  have hx := X.1
  have hb := X.2.1
  have hl : lv_has ls 2 [(0, .int x0), (1, .int x1)] := hl
  have h : (if x0 = 0 then x1 else x0) = qr := h
  skip
  refine lv_iload_n hx hb dX8_first_0 rfl (lv_at hl 0 rfl) ?_
  refine lv_if_eq (tgt := 8) hx hb dX8_first_1 (by decide) (fun c1 => ?_) (fun c1 => ?_)
  · have h := (if_pos c1).symm.trans h
    refine lv_iload_n hx hb dX8_first_8 rfl (lv_at hl 1 rfl) ?_
    subst h
    exact lb_iret X hW dX8_first_9
  · have h := (if_neg c1).symm.trans h
    refine lv_iload_n hx hb dX8_first_4 rfl (lv_at hl 0 rfl) ?_
    refine lv_goto (tgt := 9) hx hb dX8_first_5 (by decide) ?_
    subst h
    exact lb_iret X hW dX8_first_9
abbrev rmX8_refuse : Room := { frames := 0, cells := 0, slots := 0, locals := 0 }
def f_X8_refuse (x1 : Int32) (σ : lb_Mem) : Option (Int32 × lb_Mem) := lb_chk (lb_ix (-x1) 7) (lb_chk (lb_ix (-x1) 7) (lb_let (lb_sto σ 52 (-x1).toNatClampNeg ((σ 52 (-x1).toNatClampNeg) + (1 : Int32))) (fun s10 : lb_Mem => some (x1, s10))))
set_option maxRecDepth 20000 in
set_option maxHeartbeats 4000000 in
theorem m_X8_refuse (l : Launch) (G : lb_G) (σ : lb_Mem) (x1 : Int32) (qr : (Int32 × lb_Mem)) (h : f_X8_refuse x1 σ = some qr) : lb_M l yX8_refuse cX8_refuse 2 (some .int) rmX8_refuse [.ref (lb_ad G 0), .int x1] G σ (lb_QI G qr.1 qr.2) := by
  refine lb_start RX8 (by decide +kernel) rfl (Nat.le_of_ble_eq_true rfl) (fun p e s m below meth c X hW ls hl => ?_)
  have hx := X.1
  have hb := X.2.1
  have hl : lv_has ls 2 [(0, .ref (lb_ad G 0)), (1, .int x1)] := hl
  have h : (lb_chk (lb_ix (-x1) 7) (lb_chk (lb_ix (-x1) 7) (lb_let (lb_sto σ 52 (-x1).toNatClampNeg ((σ 52 (-x1).toNatClampNeg) + (1 : Int32))) (fun s10 : lb_Mem => some (x1, s10))))) = some qr := h
  skip
  refine lv_aload_n hx hb dX8_refuse_0 rfl (lv_at hl 0 rfl) ?_
  refine rg_X8_41 X hW dX8_refuse_1 ?_
  refine lv_iload_n hx hb dX8_refuse_4 rfl (lv_at hl 1 rfl) ?_
  refine lv_ineg hx hb dX8_refuse_5 ?_
  refine lv_dup2_11 hx hb dX8_refuse_6 rfl rfl ?_
  obtain ⟨i7, h⟩ := lb_chk_in h
  refine lb_ild X hW (show lb_ar 52 = 6 + 1 from rfl) i7 dX8_refuse_7 ?_
  refine lv_iconst (v := 1) hx hb dX8_refuse_8 rfl ?_
  refine lv_iadd hx hb dX8_refuse_9 ?_
  obtain ⟨i10, h⟩ := lb_chk_in h
  refine lb_ist X hW (show lb_ar 52 = 6 + 1 from rfl) i10 dX8_refuse_10 (fun H locs hW => ?_)
  obtain ⟨s10, e10⟩ : ∃ z, z = lb_sto σ 52 (-x1).toNatClampNeg ((σ 52 (-x1).toNatClampNeg) + (1 : Int32)) := ⟨_, rfl⟩
  rw [← e10] at hW
  have h := lb_letI e10 h
  refine lv_iload_n hx hb dX8_refuse_11 rfl (lv_at hl 1 rfl) ?_
  obtain rfl := Option.some.inj h
  exact lb_iret X hW dX8_refuse_12
theorem rc_X8_44 {p : Program} {l : Launch} {e : Env} {R : Room} {s : State} {m : MethodId} {args : Array Value} {below : List Frame} {meth : Method} {c : Code} {H : Heap} {locs : List Loc} {cells slots : Nat} {Q : State → Prop} {cc : ByteArray} {pc nL : Nat} {ls : Array Slot} {rest : List Value} {G : lb_G} {σ : lb_Mem} {ret : Option FieldType} (X : lb_C G p s m args meth c cc nL RX8 ret) (hW : lb_W G s σ H locs) (x0 : Int32) (x1 : Int32) (x2 : Int32) (hR : lb_room rmX8_within R 3) (hls : ls.size = nL) (hrest : (rest.map fun v => v.category).sum ≤ 8) (d : decode cc pc = .ok (.invokestatic 44, 3)) (hcap : cells ≤ R.cells ∧ slots ≤ R.slots) (kk : ∀ (H1 : Heap) (locs1 : List Loc), lb_W G s σ H1 locs1 → W p l e R s m args below meth c H1 locs1 cells slots Q (F0 m (pc + 3) ls (.int (f_X8_within x0 x1 x2) :: rest))) : W p l e R s m args below meth c H locs cells slots Q (F0 m pc ls (.int x2 :: .int x1 :: .int x0 :: rest)) :=
  lb_goI hW (lb_runS (As := [.int x0, .int x1, .int x2]) X hW (m_X8_within l G σ x0 x1 x2 _ rfl) (n := 3) ⟨qw_210, qw_43, qw_212, by decide +kernel⟩ hR qw_211 rfl hls hrest d hcap) kk
theorem rc_X8_51 {p : Program} {l : Launch} {e : Env} {R : Room} {s : State} {m : MethodId} {args : Array Value} {below : List Frame} {meth : Method} {c : Code} {H : Heap} {locs : List Loc} {cells slots : Nat} {Q : State → Prop} {cc : ByteArray} {pc nL : Nat} {ls : Array Slot} {rest : List Value} {G : lb_G} {σ : lb_Mem} {ret : Option FieldType} (X : lb_C G p s m args meth c cc nL RX8 ret) (hW : lb_W G s σ H locs) (x0 : Int32) (x1 : Int32) (hR : lb_room rmX8_first R 2) (hls : ls.size = nL) (hrest : (rest.map fun v => v.category).sum ≤ 8) (d : decode cc pc = .ok (.invokestatic 51, 3)) (hcap : cells ≤ R.cells ∧ slots ≤ R.slots) (kk : ∀ (H1 : Heap) (locs1 : List Loc), lb_W G s σ H1 locs1 → W p l e R s m args below meth c H1 locs1 cells slots Q (F0 m (pc + 3) ls (.int (f_X8_first x0 x1) :: rest))) : W p l e R s m args below meth c H locs cells slots Q (F0 m pc ls (.int x1 :: .int x0 :: rest)) :=
  lb_goI hW (lb_runS (As := [.int x0, .int x1]) X hW (m_X8_first l G σ x0 x1 _ rfl) (n := 2) ⟨qw_213, qw_43, qw_215, by decide +kernel⟩ hR qw_214 rfl hls hrest d hcap) kk
theorem rc_X8_55 {p : Program} {l : Launch} {e : Env} {R : Room} {s : State} {m : MethodId} {args : Array Value} {below : List Frame} {meth : Method} {c : Code} {H : Heap} {locs : List Loc} {cells slots : Nat} {Q : State → Prop} {cc : ByteArray} {pc nL : Nat} {ls : Array Slot} {rest : List Value} {G : lb_G} {σ : lb_Mem} {ret : Option FieldType} (X : lb_C G p s m args meth c cc nL RX8 ret) (hW : lb_W G s σ H locs) {x1 : Int32} {qr : (Int32 × lb_Mem)} (h : f_X8_refuse x1 σ = some qr) (hR : lb_room rmX8_refuse R 2) (hls : ls.size = nL) (hrest : (rest.map fun v => v.category).sum ≤ 8) (d : decode cc pc = .ok (.invokevirtual 55, 3)) (hcap : cells ≤ R.cells ∧ slots ≤ R.slots) (kk : ∀ (H1 : Heap) (locs1 : List Loc), lb_W G s qr.2 H1 locs1 → W p l e R s m args below meth c H1 locs1 cells slots Q (F0 m (pc + 3) ls (.int qr.1 :: rest))) : W p l e R s m args below meth c H locs cells slots Q (F0 m pc ls (.int x1 :: .ref (lb_ad G 0) :: rest)) :=
  lb_goI hW (lb_runV (As := [.int x1]) X hW (m_X8_refuse l G σ x1 qr h) (n := 1) ⟨qw_216, qw_43, qw_219, by decide +kernel⟩ hR qw_218 qw_0 lb_is0 rfl hls hrest d hcap) kk
theorem rc_X8_59 {p : Program} {l : Launch} {e : Env} {R : Room} {s : State} {m : MethodId} {args : Array Value} {below : List Frame} {meth : Method} {c : Code} {H : Heap} {locs : List Loc} {cells slots : Nat} {Q : State → Prop} {cc : ByteArray} {pc nL : Nat} {ls : Array Slot} {rest : List Value} {G : lb_G} {σ : lb_Mem} {ret : Option FieldType} (X : lb_C G p s m args meth c cc nL RX8 ret) (hW : lb_W G s σ H locs) {x1 : Int32} {qr : lb_Mem} (h : f_X4_add x1 σ = some qr) (hR : lb_room rmX4_add R 2) (hls : ls.size = nL) (hrest : (rest.map fun v => v.category).sum ≤ 8) (d : decode cc pc = .ok (.invokevirtual 59, 3)) (hcap : cells ≤ R.cells ∧ slots ≤ R.slots) (kk : ∀ (H1 : Heap) (locs1 : List Loc), lb_W G s qr H1 locs1 → W p l e R s m args below meth c H1 locs1 cells slots Q (F0 m (pc + 3) ls rest)) : W p l e R s m args below meth c H locs cells slots Q (F0 m pc ls (.int x1 :: .ref (lb_ad G 49) :: rest)) :=
  lb_goV hW (lb_runV (As := [.int x1]) X hW (m_X4_add l G σ x1 qr h) (n := 1) ⟨qw_220, qw_51, qw_223, by decide +kernel⟩ hR qw_221 qw_222 lb_is49 rfl hls hrest d hcap) kk
abbrev rmX8_letter : Room := { frames := 1, cells := 0, slots := 0, locals := 22 }
def f_X8_letter_26 (x1 : Int32) (σ : lb_Mem) (y0 : Int32) (y1 : Int32) : Option (Int32 × lb_Mem) := lb_let ((f_X8_first y0 y1)) (fun v29 : Int32 => if v29 = 0 then (f_X4_add x1 σ).bind (fun s45 => some ((s45 49 1), s45)) else (f_X8_refuse v29 σ).bind (fun q36 => some (q36.1, q36.2)))
set_option maxRecDepth 20000 in
set_option maxHeartbeats 4000000 in
theorem w_X8_letter_26 {p : Program} {l : Launch} {e : Env} {s : State} {m : MethodId} {args : Array Value} {below : List Frame} {meth : Method} {c : Code} {G : lb_G} {qr : (Int32 × lb_Mem)} (X : lb_C G p s m args meth c cX8_letter 3 RX8 (some .int)) : ∀ (x1 : Int32) (σ : lb_Mem) (y0 : Int32) (y1 : Int32) (H : Heap) (locs : List Loc) (ls : Array Slot), f_X8_letter_26 x1 σ y0 y1 = some qr → lb_W G s σ H locs → lv_has ls 3 [(0, .ref (lb_ad G 0)), (1, .int x1)] → W p l e rmX8_letter s m args below meth c H locs 0 0 (MQ below (lb_QI G qr.1 qr.2) args s 0 0 (lb_A G)) (F0 m 26 ls [.int y1, .int y0]) := by
  have hx := X.1
  have hb := X.2.1
  intro x1 σ y0 y1 H locs ls h hW hl
  have h : (lb_let ((f_X8_first y0 y1)) (fun v29 : Int32 => if v29 = 0 then (f_X4_add x1 σ).bind (fun s45 => some ((s45 49 1), s45)) else (f_X8_refuse v29 σ).bind (fun q36 => some (q36.1, q36.2)))) = some qr := h
  refine rc_X8_51 X hW y0 y1 ⟨⟨rfl, rfl⟩, Nat.le_of_ble_eq_true rfl, Nat.le_of_ble_eq_true rfl⟩ hl.1 (Nat.le_of_ble_eq_true rfl) dX8_letter_26 ⟨Nat.zero_le _, Nat.zero_le _⟩ (fun H locs hW => ?_)
  refine lv_topi (fun v29 e29 => ?_)
  have h := lb_letI e29 h
  refine lv_istore_n (lv' := [(2, .int v29), (0, .ref (lb_ad G 0)), (1, .int x1)]) hx hb dX8_letter_29 rfl hl (by decide) rfl (fun ls hl => ?_)
  refine lv_iload_n hx hb dX8_letter_30 rfl (lv_at hl 0 rfl) ?_
  refine lv_if_eq (tgt := 40) hx hb dX8_letter_31 (by decide) (fun c31 => ?_) (fun c31 => ?_)
  · have h := (if_pos c31).symm.trans h
    refine lv_aload_n hx hb dX8_letter_40 rfl (lv_at hl 1 rfl) ?_
    refine rg_X8_29 X hW dX8_letter_41 ?_
    refine lv_iload_n hx hb dX8_letter_44 rfl (lv_at hl 2 rfl) ?_
    obtain ⟨s45, e45, h⟩ := lb_bind h
    refine rc_X8_59 X hW e45 ⟨⟨rfl, rfl⟩, Nat.le_of_ble_eq_true rfl, Nat.le_of_ble_eq_true rfl⟩ hl.1 (Nat.le_of_ble_eq_true rfl) dX8_letter_45 ⟨Nat.zero_le _, Nat.zero_le _⟩ (fun H locs hW => ?_)
    refine lv_aload_n hx hb dX8_letter_48 rfl (lv_at hl 1 rfl) ?_
    refine rg_X8_29 X hW dX8_letter_49 ?_
    refine rg_X8_48 X hW dX8_letter_52 ?_
    obtain rfl := Option.some.inj h
    exact lb_iret X hW dX8_letter_55
  · have h := (if_neg c31).symm.trans h
    refine lv_aload_n hx hb dX8_letter_34 rfl (lv_at hl 1 rfl) ?_
    refine lv_iload_n hx hb dX8_letter_35 rfl (lv_at hl 0 rfl) ?_
    obtain ⟨q36, e36, h⟩ := lb_bind h
    refine rc_X8_55 X hW e36 ⟨⟨rfl, rfl⟩, Nat.le_of_ble_eq_true rfl, Nat.le_of_ble_eq_true rfl⟩ hl.1 (Nat.le_of_ble_eq_true rfl) dX8_letter_36 ⟨Nat.zero_le _, Nat.zero_le _⟩ (fun H locs hW => ?_)
    obtain rfl := Option.some.inj h
    exact lb_iret X hW dX8_letter_39
def f_X8_letter (x1 : Int32) (σ : lb_Mem) : Option (Int32 × lb_Mem) := if (96 : Int32) ≤ (σ 49 1) then f_X8_letter_26 x1 σ (f_X8_within x1 (0 : Int32) (255 : Int32)) (-6 : Int32) else f_X8_letter_26 x1 σ (f_X8_within x1 (0 : Int32) (255 : Int32)) (0 : Int32)
set_option maxRecDepth 20000 in
set_option maxHeartbeats 4000000 in
theorem m_X8_letter (l : Launch) (G : lb_G) (σ : lb_Mem) (x1 : Int32) (qr : (Int32 × lb_Mem)) (h : f_X8_letter x1 σ = some qr) : lb_M l yX8_letter cX8_letter 3 (some .int) rmX8_letter [.ref (lb_ad G 0), .int x1] G σ (lb_QI G qr.1 qr.2) := by
  refine lb_start RX8 (by decide +kernel) rfl (Nat.le_of_ble_eq_true rfl) (fun p e s m below meth c X hW ls hl => ?_)
  have hx := X.1
  have hb := X.2.1
  have hl : lv_has ls 3 [(0, .ref (lb_ad G 0)), (1, .int x1)] := hl
  have h : (if (96 : Int32) ≤ (σ 49 1) then f_X8_letter_26 x1 σ (f_X8_within x1 (0 : Int32) (255 : Int32)) (-6 : Int32) else f_X8_letter_26 x1 σ (f_X8_within x1 (0 : Int32) (255 : Int32)) (0 : Int32)) = some qr := h
  skip
  refine lv_iload_n hx hb dX8_letter_0 rfl (lv_at hl 1 rfl) ?_
  refine lv_iconst (v := 0) hx hb dX8_letter_1 rfl ?_
  refine lv_sipush (v := 255) hx hb dX8_letter_2 rfl ?_
  refine rc_X8_44 X hW x1 (0 : Int32) (255 : Int32) ⟨⟨rfl, rfl⟩, Nat.le_of_ble_eq_true rfl, Nat.le_of_ble_eq_true rfl⟩ hl.1 (Nat.le_of_ble_eq_true rfl) dX8_letter_5 ⟨Nat.zero_le _, Nat.zero_le _⟩ (fun H locs hW => ?_)
  refine lv_aload_n hx hb dX8_letter_8 rfl (lv_at hl 0 rfl) ?_
  refine rg_X8_29 X hW dX8_letter_9 ?_
  refine rg_X8_48 X hW dX8_letter_12 ?_
  refine lv_bipush (v := 96) hx hb dX8_letter_15 rfl ?_
  refine lv_icmp_ge (tgt := 24) hx hb dX8_letter_17 (by decide) (fun c17 => ?_) (fun c17 => ?_)
  · have h := (if_pos c17).symm.trans h
    refine lv_bipush (v := -6) hx hb dX8_letter_24 rfl ?_
    exact w_X8_letter_26 X x1 σ (f_X8_within x1 (0 : Int32) (255 : Int32)) (-6 : Int32) _ _ _ h hW (lv_sub hl [0, 1] rfl)
  · have h := (if_neg c17).symm.trans h
    refine lv_iconst (v := 0) hx hb dX8_letter_20 rfl ?_
    refine lv_goto (tgt := 26) hx hb dX8_letter_21 (by decide) ?_
    exact w_X8_letter_26 X x1 σ (f_X8_within x1 (0 : Int32) (255 : Int32)) (0 : Int32) _ _ _ h hW (lv_sub hl [0, 1] rfl)
