abbrev rmX9_bits : Room := { frames := 0, cells := 0, slots := 0, locals := 0 }
def f_X9_bits_4 : Nat → Int32 → Int32 → Int32 → Option Int32
  | 0, _, _, _ => none
  | n + 1, x0, x1, x2 => if (8 : Int32) ≤ x2 then some x1 else lb_let ((x1 + ((x0 >>> (x2 &&& 31)) &&& (1 : Int32)))) (fun v17 : Int32 => f_X9_bits_4 n x0 v17 (x2 + 1))
set_option maxRecDepth 20000 in
set_option maxHeartbeats 4000000 in
theorem w_X9_bits_4 {p : Program} {l : Launch} {e : Env} {s : State} {m : MethodId} {args : Array Value} {below : List Frame} {meth : Method} {c : Code} {G : lb_G} {σ : lb_Mem} {qr : Int32} (X : lb_C G p s m args meth c cX9_bits 3 RX9 (some .int)) : ∀ (n : Nat) (x0 : Int32) (x1 : Int32) (x2 : Int32) (H : Heap) (locs : List Loc) (ls : Array Slot), f_X9_bits_4 n x0 x1 x2 = some qr → lb_W G s σ H locs → lv_has ls 3 [(0, .int x0), (1, .int x1), (2, .int x2)] → W p l e rmX9_bits s m args below meth c H locs 0 0 (MQ below (lb_QI G qr σ) args s 0 0 (lb_A G)) (F0 m 4 ls []) := by
  have hx := X.1
  have hb := X.2.1
  intro n
  induction n with
  | zero => intro x0 x1 x2 H locs ls h hW hl; exact absurd h (fun z => by cases z)
  | succ n ih =>
    intro x0 x1 x2 H locs ls h hW hl
    have h : (if (8 : Int32) ≤ x2 then some x1 else lb_let ((x1 + ((x0 >>> (x2 &&& 31)) &&& (1 : Int32)))) (fun v17 : Int32 => f_X9_bits_4 n x0 v17 (x2 + 1))) = some qr := h
    refine lv_iload_n hx hb dX9_bits_4 rfl (lv_at hl 2 rfl) ?_
    refine lv_bipush (v := 8) hx hb dX9_bits_5 rfl ?_
    refine lv_icmp_ge (tgt := 24) hx hb dX9_bits_7 (by decide) (fun c7 => ?_) (fun c7 => ?_)
    · have h := (if_pos c7).symm.trans h
      refine lv_iload_n hx hb dX9_bits_24 rfl (lv_at hl 1 rfl) ?_
      obtain rfl := Option.some.inj h
      exact lb_iret X hW dX9_bits_25
    · have h := (if_neg c7).symm.trans h
      refine lv_iload_n hx hb dX9_bits_10 rfl (lv_at hl 1 rfl) ?_
      refine lv_iload_n hx hb dX9_bits_11 rfl (lv_at hl 0 rfl) ?_
      refine lv_iload_n hx hb dX9_bits_12 rfl (lv_at hl 2 rfl) ?_
      refine lv_ishr hx hb dX9_bits_13 ?_
      refine lv_iconst (v := 1) hx hb dX9_bits_14 rfl ?_
      refine lv_iand hx hb dX9_bits_15 ?_
      refine lv_iadd hx hb dX9_bits_16 ?_
      refine lv_topi (fun v17 e17 => ?_)
      have h := lb_letI e17 h
      refine lv_istore_n (lv' := [(1, .int v17), (0, .int x0), (2, .int x2)]) hx hb dX9_bits_17 rfl hl (by decide) rfl (fun ls hl => ?_)
      refine lv_iinc (v := (x2 + 1)) (lv' := [(2, .int (x2 + 1)), (1, .int v17), (0, .int x0)]) hx hb dX9_bits_18 hl (k := 2) rfl rfl (by decide) rfl (fun ls hl => ?_)
      refine lv_goto (tgt := 4) hx hb dX9_bits_21 (by decide) ?_
      exact ih x0 v17 (x2 + 1) _ _ _ h hW (lv_sub hl [2, 1, 0] rfl)
def f_X9_bits (x0 : Int32) : Option Int32 := f_X9_bits_4 lb_N x0 (0 : Int32) (0 : Int32)
set_option maxRecDepth 20000 in
set_option maxHeartbeats 4000000 in
theorem m_X9_bits (l : Launch) (G : lb_G) (σ : lb_Mem) (x0 : Int32) (qr : Int32) (h : f_X9_bits x0 = some qr) : lb_M l yX9_bits cX9_bits 3 (some .int) rmX9_bits [.int x0] G σ (lb_QI G qr σ) := by
  refine lb_start RX9 (by decide +kernel) rfl (Nat.le_of_ble_eq_true rfl) (fun p e s m below meth c X hW ls hl => ?_)
  have hx := X.1
  have hb := X.2.1
  have hl : lv_has ls 3 [(0, .int x0)] := hl
  have h : (f_X9_bits_4 lb_N x0 (0 : Int32) (0 : Int32)) = some qr := h
  skip
  refine lv_iconst (v := 0) hx hb dX9_bits_0 rfl ?_
  refine lv_istore_n (lv' := [(1, .int (0 : Int32)), (0, .int x0)]) hx hb dX9_bits_1 rfl hl (by decide) rfl (fun ls hl => ?_)
  refine lv_iconst (v := 0) hx hb dX9_bits_2 rfl ?_
  refine lv_istore_n (lv' := [(2, .int (0 : Int32)), (1, .int (0 : Int32)), (0, .int x0)]) hx hb dX9_bits_3 rfl hl (by decide) rfl (fun ls hl => ?_)
  exact w_X9_bits_4 X lb_N x0 (0 : Int32) (0 : Int32) _ _ _ h hW (lv_sub hl [2, 1, 0] rfl)
abbrev rmX9_off : Room := { frames := 0, cells := 0, slots := 0, locals := 0 }
def f_X9_off_14 (y0 : Int32) : Int32 := if y0 ≤ (3 : Int32) then y0 else ((6 : Int32) - y0)
set_option maxRecDepth 20000 in
set_option maxHeartbeats 4000000 in
theorem w_X9_off_14 {p : Program} {l : Launch} {e : Env} {s : State} {m : MethodId} {args : Array Value} {below : List Frame} {meth : Method} {c : Code} {G : lb_G} {σ : lb_Mem} {qr : Int32} (X : lb_C G p s m args meth c cX9_off 3 RX9 (some .int)) : ∀ (y0 : Int32) (H : Heap) (locs : List Loc) (ls : Array Slot), f_X9_off_14 y0 = qr → lb_W G s σ H locs → lv_has ls 3 [] → W p l e rmX9_off s m args below meth c H locs 0 0 (MQ below (lb_QI G qr σ) args s 0 0 (lb_A G)) (F0 m 14 ls [.int y0]) := by
  have hx := X.1
  have hb := X.2.1
  intro y0 H locs ls h hW hl
  have h : (if y0 ≤ (3 : Int32) then y0 else ((6 : Int32) - y0)) = qr := h
  refine lv_istore_n (lv' := [(2, .int y0)]) hx hb dX9_off_14 rfl hl (by decide) rfl (fun ls hl => ?_)
  refine lv_iload_n hx hb dX9_off_15 rfl (lv_at hl 0 rfl) ?_
  refine lv_iconst (v := 3) hx hb dX9_off_16 rfl ?_
  refine lv_icmp_le (tgt := 27) hx hb dX9_off_17 (by decide) (fun c17 => ?_) (fun c17 => ?_)
  · have h := (if_pos c17).symm.trans h
    refine lv_iload_n hx hb dX9_off_27 rfl (lv_at hl 0 rfl) ?_
    subst h
    exact lb_iret X hW dX9_off_28
  · have h := (if_neg c17).symm.trans h
    refine lv_bipush (v := 6) hx hb dX9_off_20 rfl ?_
    refine lv_iload_n hx hb dX9_off_22 rfl (lv_at hl 0 rfl) ?_
    refine lv_isub hx hb dX9_off_23 ?_
    refine lv_goto (tgt := 28) hx hb dX9_off_24 (by decide) ?_
    subst h
    exact lb_iret X hW dX9_off_28
def f_X9_off (x0 : Int32) (x1 : Int32) : Int32 := if x1 ≤ x0 then f_X9_off_14 (x0 - x1) else f_X9_off_14 (x1 - x0)
set_option maxRecDepth 20000 in
set_option maxHeartbeats 4000000 in
theorem m_X9_off (l : Launch) (G : lb_G) (σ : lb_Mem) (x0 : Int32) (x1 : Int32) (qr : Int32) (h : f_X9_off x0 x1 = qr) : lb_M l yX9_off cX9_off 3 (some .int) rmX9_off [.int x0, .int x1] G σ (lb_QI G qr σ) := by
  refine lb_start RX9 (by decide +kernel) rfl (Nat.le_of_ble_eq_true rfl) (fun p e s m below meth c X hW ls hl => ?_)
  have hx := X.1
  have hb := X.2.1
  have hl : lv_has ls 3 [(0, .int x0), (1, .int x1)] := hl
  have h : (if x1 ≤ x0 then f_X9_off_14 (x0 - x1) else f_X9_off_14 (x1 - x0)) = qr := h
  skip
  refine lv_iload_n hx hb dX9_off_0 rfl (lv_at hl 0 rfl) ?_
  refine lv_iload_n hx hb dX9_off_1 rfl (lv_at hl 1 rfl) ?_
  refine lv_icmp_ge (tgt := 11) hx hb dX9_off_2 (by decide) (fun c2 => ?_) (fun c2 => ?_)
  · have h := (if_pos c2).symm.trans h
    refine lv_iload_n hx hb dX9_off_11 rfl (lv_at hl 0 rfl) ?_
    refine lv_iload_n hx hb dX9_off_12 rfl (lv_at hl 1 rfl) ?_
    refine lv_isub hx hb dX9_off_13 ?_
    exact w_X9_off_14 X (x0 - x1) _ _ _ h hW (lv_sub hl [] rfl)
  · have h := (if_neg c2).symm.trans h
    refine lv_iload_n hx hb dX9_off_5 rfl (lv_at hl 1 rfl) ?_
    refine lv_iload_n hx hb dX9_off_6 rfl (lv_at hl 0 rfl) ?_
    refine lv_isub hx hb dX9_off_7 ?_
    refine lv_goto (tgt := 14) hx hb dX9_off_8 (by decide) ?_
    exact w_X9_off_14 X (x1 - x0) _ _ _ h hW (lv_sub hl [] rfl)
theorem rc_X9_45 {p : Program} {l : Launch} {e : Env} {R : Room} {s : State} {m : MethodId} {args : Array Value} {below : List Frame} {meth : Method} {c : Code} {H : Heap} {locs : List Loc} {cells slots : Nat} {Q : State → Prop} {cc : ByteArray} {pc nL : Nat} {ls : Array Slot} {rest : List Value} {G : lb_G} {σ : lb_Mem} {ret : Option FieldType} (X : lb_C G p s m args meth c cc nL RX9 ret) (hW : lb_W G s σ H locs) (x0 : Int32) (x1 : Int32) (hR : lb_room rmX9_ofT R 2) (hls : ls.size = nL) (hrest : (rest.map fun v => v.category).sum ≤ 8) (d : decode cc pc = .ok (.invokestatic 45, 3)) (hcap : cells ≤ R.cells ∧ slots ≤ R.slots) (kk : ∀ (H1 : Heap) (locs1 : List Loc), lb_W G s σ H1 locs1 → W p l e R s m args below meth c H1 locs1 cells slots Q (F0 m (pc + 3) ls (.int (f_X9_ofT x0 x1) :: rest))) : W p l e R s m args below meth c H locs cells slots Q (F0 m pc ls (.int x1 :: .int x0 :: rest)) :=
  lb_goI hW (lb_runS (As := [.int x0, .int x1]) X hW (m_X9_ofT l G σ x0 x1 _ rfl) (n := 2) ⟨qw_858, qw_52, qw_860, by decide +kernel⟩ hR qw_859 rfl hls hrest d hcap) kk
theorem rc_X9_49 {p : Program} {l : Launch} {e : Env} {R : Room} {s : State} {m : MethodId} {args : Array Value} {below : List Frame} {meth : Method} {c : Code} {H : Heap} {locs : List Loc} {cells slots : Nat} {Q : State → Prop} {cc : ByteArray} {pc nL : Nat} {ls : Array Slot} {rest : List Value} {G : lb_G} {σ : lb_Mem} {ret : Option FieldType} (X : lb_C G p s m args meth c cc nL RX9 ret) (hW : lb_W G s σ H locs) (x0 : Int32) (x1 : Int32) (hR : lb_room rmX9_off R 3) (hls : ls.size = nL) (hrest : (rest.map fun v => v.category).sum ≤ 8) (d : decode cc pc = .ok (.invokestatic 49, 3)) (hcap : cells ≤ R.cells ∧ slots ≤ R.slots) (kk : ∀ (H1 : Heap) (locs1 : List Loc), lb_W G s σ H1 locs1 → W p l e R s m args below meth c H1 locs1 cells slots Q (F0 m (pc + 3) ls (.int (f_X9_off x0 x1) :: rest))) : W p l e R s m args below meth c H locs cells slots Q (F0 m pc ls (.int x1 :: .int x0 :: rest)) :=
  lb_goI hW (lb_runS (As := [.int x0, .int x1]) X hW (m_X9_off l G σ x0 x1 _ rfl) (n := 2) ⟨qw_877, qw_52, qw_879, by decide +kernel⟩ hR qw_878 rfl hls hrest d hcap) kk
theorem rc_X9_52 {p : Program} {l : Launch} {e : Env} {R : Room} {s : State} {m : MethodId} {args : Array Value} {below : List Frame} {meth : Method} {c : Code} {H : Heap} {locs : List Loc} {cells slots : Nat} {Q : State → Prop} {cc : ByteArray} {pc nL : Nat} {ls : Array Slot} {rest : List Value} {G : lb_G} {σ : lb_Mem} {ret : Option FieldType} (X : lb_C G p s m args meth c cc nL RX9 ret) (hW : lb_W G s σ H locs) (x0 : Int32) (x1 : Int32) (hR : lb_room rmX9_ofP R 2) (hls : ls.size = nL) (hrest : (rest.map fun v => v.category).sum ≤ 8) (d : decode cc pc = .ok (.invokestatic 52, 3)) (hcap : cells ≤ R.cells ∧ slots ≤ R.slots) (kk : ∀ (H1 : Heap) (locs1 : List Loc), lb_W G s σ H1 locs1 → W p l e R s m args below meth c H1 locs1 cells slots Q (F0 m (pc + 3) ls (.int (f_X9_ofP x0 x1) :: rest))) : W p l e R s m args below meth c H locs cells slots Q (F0 m pc ls (.int x1 :: .int x0 :: rest)) :=
  lb_goI hW (lb_runS (As := [.int x0, .int x1]) X hW (m_X9_ofP l G σ x0 x1 _ rfl) (n := 2) ⟨qw_847, qw_52, qw_849, by decide +kernel⟩ hR qw_848 rfl hls hrest d hcap) kk
abbrev rmX9_gainsIn : Room := { frames := 1, cells := 0, slots := 0, locals := 22 }
def f_X9_gainsIn_53 (σ : lb_Mem) (k0 : Nat) (x1 : Int32) (x2 : Int32) (x3 : Int32) (x4 : Int32) (y0 : Int32) : Option Int32 := lb_let ((y0 + (x4 / (4 : Int32)))) (fun v62 : Int32 => lb_chk (lb_ix (f_X9_ofT x1 (0 : Int32)) 61) (if (σ k0 (f_X9_ofT x1 (0 : Int32)).toNatClampNeg) = 1 then some ((2 : Int32) * y0) else if (σ k0 (f_X9_ofT x1 (0 : Int32)).toNatClampNeg) = 2 then some v62 else if (σ k0 (f_X9_ofT x1 (0 : Int32)).toNatClampNeg) = 3 then if x3 ≤ (1 : Int32) then some ((2 : Int32) * y0) else some (((2 : Int32) * y0) - (x4 / (2 : Int32))) else if (σ k0 (f_X9_ofT x1 (0 : Int32)).toNatClampNeg) = 4 then if 0 ≤ v62 then some v62 else some (0 : Int32) else if (σ k0 (f_X9_ofT x1 (0 : Int32)).toNatClampNeg) = 5 then lb_chk (lb_ix (f_X9_ofT x1 (2 : Int32)) 61) (lb_chk (lb_ix (f_X9_ofP x2 (0 : Int32)) 61) (some (y0 - (f_X9_off (σ k0 (f_X9_ofT x1 (2 : Int32)).toNatClampNeg) (σ k0 (f_X9_ofP x2 (0 : Int32)).toNatClampNeg))))) else some y0))
set_option maxRecDepth 20000 in
set_option maxHeartbeats 4000000 in
theorem w_X9_gainsIn_53 {p : Program} {l : Launch} {e : Env} {s : State} {m : MethodId} {args : Array Value} {below : List Frame} {meth : Method} {c : Code} {G : lb_G} {σ : lb_Mem} {k0 : Nat} {qr : Int32} (X : lb_C G p s m args meth c cX9_gainsIn 7 RX9 (some .int)) (hk0 : lb_ar k0 = 60 + 1) : ∀ (x1 : Int32) (x2 : Int32) (x3 : Int32) (x4 : Int32) (y0 : Int32) (H : Heap) (locs : List Loc) (ls : Array Slot), f_X9_gainsIn_53 σ k0 x1 x2 x3 x4 y0 = some qr → lb_W G s σ H locs → lv_has ls 7 [(0, .ref (lb_ad G k0)), (1, .int x1), (2, .int x2), (3, .int x3), (4, .int x4)] → W p l e rmX9_gainsIn s m args below meth c H locs 0 0 (MQ below (lb_QI G qr σ) args s 0 0 (lb_A G)) (F0 m 53 ls [.int y0]) := by
  have hx := X.1
  have hb := X.2.1
  intro x1 x2 x3 x4 y0 H locs ls h hW hl
  have h : (lb_let ((y0 + (x4 / (4 : Int32)))) (fun v62 : Int32 => lb_chk (lb_ix (f_X9_ofT x1 (0 : Int32)) 61) (if (σ k0 (f_X9_ofT x1 (0 : Int32)).toNatClampNeg) = 1 then some ((2 : Int32) * y0) else if (σ k0 (f_X9_ofT x1 (0 : Int32)).toNatClampNeg) = 2 then some v62 else if (σ k0 (f_X9_ofT x1 (0 : Int32)).toNatClampNeg) = 3 then if x3 ≤ (1 : Int32) then some ((2 : Int32) * y0) else some (((2 : Int32) * y0) - (x4 / (2 : Int32))) else if (σ k0 (f_X9_ofT x1 (0 : Int32)).toNatClampNeg) = 4 then if 0 ≤ v62 then some v62 else some (0 : Int32) else if (σ k0 (f_X9_ofT x1 (0 : Int32)).toNatClampNeg) = 5 then lb_chk (lb_ix (f_X9_ofT x1 (2 : Int32)) 61) (lb_chk (lb_ix (f_X9_ofP x2 (0 : Int32)) 61) (some (y0 - (f_X9_off (σ k0 (f_X9_ofT x1 (2 : Int32)).toNatClampNeg) (σ k0 (f_X9_ofP x2 (0 : Int32)).toNatClampNeg))))) else some y0))) = some qr := h
  refine lv_istore (lv' := [(5, .int y0), (0, .ref (lb_ad G k0)), (1, .int x1), (2, .int x2), (3, .int x3), (4, .int x4)]) hx hb dX9_gainsIn_53 hl (by decide) rfl (fun ls hl => ?_)
  refine lv_iload hx hb dX9_gainsIn_55 (lv_at hl 0 rfl) ?_
  refine lv_iload hx hb dX9_gainsIn_57 (lv_at hl 5 rfl) ?_
  refine lv_iconst (v := 4) hx hb dX9_gainsIn_59 rfl ?_
  refine lv_idiv hx hb dX9_gainsIn_60 (by decide) ?_
  refine lv_iadd hx hb dX9_gainsIn_61 ?_
  refine lv_topi (fun v62 e62 => ?_)
  have h := lb_letI e62 h
  refine lv_istore (lv' := [(6, .int v62), (5, .int y0), (0, .ref (lb_ad G k0)), (1, .int x1), (2, .int x2), (3, .int x3), (4, .int x4)]) hx hb dX9_gainsIn_62 hl (by decide) rfl (fun ls hl => ?_)
  refine lv_aload_n hx hb dX9_gainsIn_64 rfl (lv_at hl 2 rfl) ?_
  refine lv_iload_n hx hb dX9_gainsIn_65 rfl (lv_at hl 3 rfl) ?_
  refine lv_iconst (v := 0) hx hb dX9_gainsIn_66 rfl ?_
  refine rc_X9_45 X hW x1 (0 : Int32) ⟨⟨rfl, rfl⟩, Nat.le_of_ble_eq_true rfl, Nat.le_of_ble_eq_true rfl⟩ hl.1 (Nat.le_of_ble_eq_true rfl) dX9_gainsIn_67 ⟨Nat.zero_le _, Nat.zero_le _⟩ (fun H locs hW => ?_)
  obtain ⟨i70, h⟩ := lb_chk_in h
  refine lb_ild X hW hk0 i70 dX9_gainsIn_70 ?_
  by_cases c71_1 : (σ k0 (f_X9_ofT x1 (0 : Int32)).toNatClampNeg) = 1
  · have h := (if_pos c71_1).symm.trans h
    refine lv_tableIn (tgt := 104) hx hb dX9_gainsIn_71 (by rw [c71_1]; decide) (by rw [c71_1]; decide) (off := 33) (by rw [c71_1]; rfl) (by decide) ?_
    refine lv_iconst (v := 2) hx hb dX9_gainsIn_104 rfl ?_
    refine lv_iload hx hb dX9_gainsIn_105 (lv_at hl 1 rfl) ?_
    refine lv_imul hx hb dX9_gainsIn_107 ?_
    obtain rfl := Option.some.inj h
    exact lb_iret X hW dX9_gainsIn_108
  have h := (if_neg c71_1).symm.trans h
  by_cases c71_2 : (σ k0 (f_X9_ofT x1 (0 : Int32)).toNatClampNeg) = 2
  · have h := (if_pos c71_2).symm.trans h
    refine lv_tableIn (tgt := 109) hx hb dX9_gainsIn_71 (by rw [c71_2]; decide) (by rw [c71_2]; decide) (off := 38) (by rw [c71_2]; rfl) (by decide) ?_
    refine lv_iload hx hb dX9_gainsIn_109 (lv_at hl 0 rfl) ?_
    obtain rfl := Option.some.inj h
    exact lb_iret X hW dX9_gainsIn_111
  have h := (if_neg c71_2).symm.trans h
  by_cases c71_3 : (σ k0 (f_X9_ofT x1 (0 : Int32)).toNatClampNeg) = 3
  · have h := (if_pos c71_3).symm.trans h
    refine lv_tableIn (tgt := 112) hx hb dX9_gainsIn_71 (by rw [c71_3]; decide) (by rw [c71_3]; decide) (off := 41) (by rw [c71_3]; rfl) (by decide) ?_
    refine lv_iload_n hx hb dX9_gainsIn_112 rfl (lv_at hl 5 rfl) ?_
    refine lv_iconst (v := 1) hx hb dX9_gainsIn_113 rfl ?_
    refine lv_icmp_le (tgt := 129) hx hb dX9_gainsIn_114 (by decide) (fun c114 => ?_) (fun c114 => ?_)
    · have h := (if_pos c114).symm.trans h
      refine lv_iconst (v := 2) hx hb dX9_gainsIn_129 rfl ?_
      refine lv_iload hx hb dX9_gainsIn_130 (lv_at hl 1 rfl) ?_
      refine lv_imul hx hb dX9_gainsIn_132 ?_
      obtain rfl := Option.some.inj h
      exact lb_iret X hW dX9_gainsIn_133
    · have h := (if_neg c114).symm.trans h
      refine lv_iconst (v := 2) hx hb dX9_gainsIn_117 rfl ?_
      refine lv_iload hx hb dX9_gainsIn_118 (lv_at hl 1 rfl) ?_
      refine lv_imul hx hb dX9_gainsIn_120 ?_
      refine lv_iload hx hb dX9_gainsIn_121 (lv_at hl 6 rfl) ?_
      refine lv_iconst (v := 2) hx hb dX9_gainsIn_123 rfl ?_
      refine lv_idiv hx hb dX9_gainsIn_124 (by decide) ?_
      refine lv_isub hx hb dX9_gainsIn_125 ?_
      refine lv_goto (tgt := 133) hx hb dX9_gainsIn_126 (by decide) ?_
      obtain rfl := Option.some.inj h
      exact lb_iret X hW dX9_gainsIn_133
  have h := (if_neg c71_3).symm.trans h
  by_cases c71_4 : (σ k0 (f_X9_ofT x1 (0 : Int32)).toNatClampNeg) = 4
  · have h := (if_pos c71_4).symm.trans h
    refine lv_tableIn (tgt := 134) hx hb dX9_gainsIn_71 (by rw [c71_4]; decide) (by rw [c71_4]; decide) (off := 63) (by rw [c71_4]; rfl) (by decide) ?_
    refine lv_iload hx hb dX9_gainsIn_134 (lv_at hl 0 rfl) ?_
    refine lv_if_ge (tgt := 143) hx hb dX9_gainsIn_136 (by decide) (fun c136 => ?_) (fun c136 => ?_)
    · have h := (if_pos c136).symm.trans h
      refine lv_iload hx hb dX9_gainsIn_143 (lv_at hl 0 rfl) ?_
      obtain rfl := Option.some.inj h
      exact lb_iret X hW dX9_gainsIn_145
    · have h := (if_neg c136).symm.trans h
      refine lv_iconst (v := 0) hx hb dX9_gainsIn_139 rfl ?_
      refine lv_goto (tgt := 145) hx hb dX9_gainsIn_140 (by decide) ?_
      obtain rfl := Option.some.inj h
      exact lb_iret X hW dX9_gainsIn_145
  have h := (if_neg c71_4).symm.trans h
  by_cases c71_5 : (σ k0 (f_X9_ofT x1 (0 : Int32)).toNatClampNeg) = 5
  · have h := (if_pos c71_5).symm.trans h
    refine lv_tableIn (tgt := 146) hx hb dX9_gainsIn_71 (by rw [c71_5]; decide) (by rw [c71_5]; decide) (off := 75) (by rw [c71_5]; rfl) (by decide) ?_
    refine lv_iload hx hb dX9_gainsIn_146 (lv_at hl 1 rfl) ?_
    refine lv_aload_n hx hb dX9_gainsIn_148 rfl (lv_at hl 2 rfl) ?_
    refine lv_iload_n hx hb dX9_gainsIn_149 rfl (lv_at hl 3 rfl) ?_
    refine lv_iconst (v := 2) hx hb dX9_gainsIn_150 rfl ?_
    refine rc_X9_45 X hW x1 (2 : Int32) ⟨⟨rfl, rfl⟩, Nat.le_of_ble_eq_true rfl, Nat.le_of_ble_eq_true rfl⟩ hl.1 (Nat.le_of_ble_eq_true rfl) dX9_gainsIn_151 ⟨Nat.zero_le _, Nat.zero_le _⟩ (fun H locs hW => ?_)
    obtain ⟨i154, h⟩ := lb_chk_in h
    refine lb_ild X hW hk0 i154 dX9_gainsIn_154 ?_
    refine lv_aload_n hx hb dX9_gainsIn_155 rfl (lv_at hl 2 rfl) ?_
    refine lv_iload_n hx hb dX9_gainsIn_156 rfl (lv_at hl 4 rfl) ?_
    refine lv_iconst (v := 0) hx hb dX9_gainsIn_157 rfl ?_
    refine rc_X9_52 X hW x2 (0 : Int32) ⟨⟨rfl, rfl⟩, Nat.le_of_ble_eq_true rfl, Nat.le_of_ble_eq_true rfl⟩ hl.1 (Nat.le_of_ble_eq_true rfl) dX9_gainsIn_158 ⟨Nat.zero_le _, Nat.zero_le _⟩ (fun H locs hW => ?_)
    obtain ⟨i161, h⟩ := lb_chk_in h
    refine lb_ild X hW hk0 i161 dX9_gainsIn_161 ?_
    refine rc_X9_49 X hW (σ k0 (f_X9_ofT x1 (2 : Int32)).toNatClampNeg) (σ k0 (f_X9_ofP x2 (0 : Int32)).toNatClampNeg) ⟨⟨rfl, rfl⟩, Nat.le_of_ble_eq_true rfl, Nat.le_of_ble_eq_true rfl⟩ hl.1 (Nat.le_of_ble_eq_true rfl) dX9_gainsIn_162 ⟨Nat.zero_le _, Nat.zero_le _⟩ (fun H locs hW => ?_)
    refine lv_isub hx hb dX9_gainsIn_165 ?_
    obtain rfl := Option.some.inj h
    exact lb_iret X hW dX9_gainsIn_166
  have h := (if_neg c71_5).symm.trans h
  refine lb_tswD (tgt := 167) (lb_kn_cons c71_1 (lb_kn_cons c71_2 (lb_kn_cons c71_3 (lb_kn_cons c71_4 (lb_kn_cons c71_5 lb_kn_nil))))) hx hb dX9_gainsIn_71 (by decide) (by decide) (by decide) (by decide) (by decide) ?_
  refine lv_iload hx hb dX9_gainsIn_167 (lv_at hl 1 rfl) ?_
  obtain rfl := Option.some.inj h
  exact lb_iret X hW dX9_gainsIn_169
def f_X9_gainsIn_33 (σ : lb_Mem) (k0 : Nat) (x1 : Int32) (x2 : Int32) (y0 : Int32) : Option Int32 := lb_chk (lb_ix (f_X9_ofT x1 (1 : Int32)) 61) (lb_let ((σ k0 (f_X9_ofT x1 (1 : Int32)).toNatClampNeg)) (fun v41 : Int32 => if y0 = 0 then f_X9_gainsIn_53 σ k0 x1 x2 y0 v41 (2 : Int32) else f_X9_gainsIn_53 σ k0 x1 x2 y0 v41 (-y0)))
set_option maxRecDepth 20000 in
set_option maxHeartbeats 4000000 in
theorem w_X9_gainsIn_33 {p : Program} {l : Launch} {e : Env} {s : State} {m : MethodId} {args : Array Value} {below : List Frame} {meth : Method} {c : Code} {G : lb_G} {σ : lb_Mem} {k0 : Nat} {qr : Int32} (X : lb_C G p s m args meth c cX9_gainsIn 7 RX9 (some .int)) (hk0 : lb_ar k0 = 60 + 1) : ∀ (x1 : Int32) (x2 : Int32) (y0 : Int32) (H : Heap) (locs : List Loc) (ls : Array Slot), f_X9_gainsIn_33 σ k0 x1 x2 y0 = some qr → lb_W G s σ H locs → lv_has ls 7 [(0, .ref (lb_ad G k0)), (1, .int x1), (2, .int x2)] → W p l e rmX9_gainsIn s m args below meth c H locs 0 0 (MQ below (lb_QI G qr σ) args s 0 0 (lb_A G)) (F0 m 33 ls [.int y0]) := by
  have hx := X.1
  have hb := X.2.1
  intro x1 x2 y0 H locs ls h hW hl
  have h : (lb_chk (lb_ix (f_X9_ofT x1 (1 : Int32)) 61) (lb_let ((σ k0 (f_X9_ofT x1 (1 : Int32)).toNatClampNeg)) (fun v41 : Int32 => if y0 = 0 then f_X9_gainsIn_53 σ k0 x1 x2 y0 v41 (2 : Int32) else f_X9_gainsIn_53 σ k0 x1 x2 y0 v41 (-y0)))) = some qr := h
  refine lv_istore_n (lv' := [(3, .int y0), (0, .ref (lb_ad G k0)), (1, .int x1), (2, .int x2)]) hx hb dX9_gainsIn_33 rfl hl (by decide) rfl (fun ls hl => ?_)
  refine lv_aload_n hx hb dX9_gainsIn_34 rfl (lv_at hl 1 rfl) ?_
  refine lv_iload_n hx hb dX9_gainsIn_35 rfl (lv_at hl 2 rfl) ?_
  refine lv_iconst (v := 1) hx hb dX9_gainsIn_36 rfl ?_
  refine rc_X9_45 X hW x1 (1 : Int32) ⟨⟨rfl, rfl⟩, Nat.le_of_ble_eq_true rfl, Nat.le_of_ble_eq_true rfl⟩ hl.1 (Nat.le_of_ble_eq_true rfl) dX9_gainsIn_37 ⟨Nat.zero_le _, Nat.zero_le _⟩ (fun H locs hW => ?_)
  obtain ⟨i40, h⟩ := lb_chk_in h
  refine lb_ild X hW hk0 i40 dX9_gainsIn_40 ?_
  refine lv_topi (fun v41 e41 => ?_)
  have h := lb_letI e41 h
  refine lv_istore (lv' := [(4, .int v41), (3, .int y0), (0, .ref (lb_ad G k0)), (1, .int x1), (2, .int x2)]) hx hb dX9_gainsIn_41 hl (by decide) rfl (fun ls hl => ?_)
  refine lv_iload_n hx hb dX9_gainsIn_43 rfl (lv_at hl 1 rfl) ?_
  refine lv_if_ne (tgt := 51) hx hb dX9_gainsIn_44 (by decide) (fun c44 => ?_) (fun c44 => ?_)
  · have h := (if_neg c44).symm.trans h
    refine lv_iload_n hx hb dX9_gainsIn_51 rfl (lv_at hl 1 rfl) ?_
    refine lv_ineg hx hb dX9_gainsIn_52 ?_
    exact w_X9_gainsIn_53 X hk0 x1 x2 y0 v41 (-y0) _ _ _ h hW (lv_sub hl [2, 3, 4, 1, 0] rfl)
  · have h := (if_pos c44).symm.trans h
    refine lv_iconst (v := 2) hx hb dX9_gainsIn_47 rfl ?_
    refine lv_goto (tgt := 53) hx hb dX9_gainsIn_48 (by decide) ?_
    exact w_X9_gainsIn_53 X hk0 x1 x2 y0 v41 (2 : Int32) _ _ _ h hW (lv_sub hl [2, 3, 4, 1, 0] rfl)
def f_X9_gainsIn (σ : lb_Mem) (k0 : Nat) (x1 : Int32) (x2 : Int32) : Option Int32 := lb_chk (lb_ix (f_X9_ofT x1 (3 : Int32)) 61) (if (σ k0 (f_X9_ofT x1 (3 : Int32)).toNatClampNeg) = (6 : Int32) then f_X9_gainsIn_33 σ k0 x1 x2 (1 : Int32) else lb_chk (lb_ix (f_X9_ofT x1 (2 : Int32)) 61) (lb_chk (lb_ix (f_X9_ofT x1 (3 : Int32)) 61) (f_X9_gainsIn_33 σ k0 x1 x2 (f_X9_off (σ k0 (f_X9_ofT x1 (2 : Int32)).toNatClampNeg) (σ k0 (f_X9_ofT x1 (3 : Int32)).toNatClampNeg)))))
set_option maxRecDepth 20000 in
set_option maxHeartbeats 4000000 in
theorem m_X9_gainsIn (l : Launch) (G : lb_G) (σ : lb_Mem) {k0 : Nat} (hk0 : lb_ar k0 = 60 + 1) (x1 : Int32) (x2 : Int32) (qr : Int32) (h : f_X9_gainsIn σ k0 x1 x2 = some qr) : lb_M l yX9_gainsIn cX9_gainsIn 7 (some .int) rmX9_gainsIn [.ref (lb_ad G k0), .int x1, .int x2] G σ (lb_QI G qr σ) := by
  refine lb_start RX9 (by decide +kernel) rfl (Nat.le_of_ble_eq_true rfl) (fun p e s m below meth c X hW ls hl => ?_)
  have hx := X.1
  have hb := X.2.1
  have hl : lv_has ls 7 [(0, .ref (lb_ad G k0)), (1, .int x1), (2, .int x2)] := hl
  have h : (lb_chk (lb_ix (f_X9_ofT x1 (3 : Int32)) 61) (if (σ k0 (f_X9_ofT x1 (3 : Int32)).toNatClampNeg) = (6 : Int32) then f_X9_gainsIn_33 σ k0 x1 x2 (1 : Int32) else lb_chk (lb_ix (f_X9_ofT x1 (2 : Int32)) 61) (lb_chk (lb_ix (f_X9_ofT x1 (3 : Int32)) 61) (f_X9_gainsIn_33 σ k0 x1 x2 (f_X9_off (σ k0 (f_X9_ofT x1 (2 : Int32)).toNatClampNeg) (σ k0 (f_X9_ofT x1 (3 : Int32)).toNatClampNeg)))))) = some qr := h
  skip
  refine lv_aload_n hx hb dX9_gainsIn_0 rfl (lv_at hl 0 rfl) ?_
  refine lv_iload_n hx hb dX9_gainsIn_1 rfl (lv_at hl 1 rfl) ?_
  refine lv_iconst (v := 3) hx hb dX9_gainsIn_2 rfl ?_
  refine rc_X9_45 X hW x1 (3 : Int32) ⟨⟨rfl, rfl⟩, Nat.le_of_ble_eq_true rfl, Nat.le_of_ble_eq_true rfl⟩ hl.1 (Nat.le_of_ble_eq_true rfl) dX9_gainsIn_3 ⟨Nat.zero_le _, Nat.zero_le _⟩ (fun H locs hW => ?_)
  obtain ⟨i6, h⟩ := lb_chk_in h
  refine lb_ild X hW hk0 i6 dX9_gainsIn_6 ?_
  refine lv_bipush (v := 6) hx hb dX9_gainsIn_7 rfl ?_
  refine lv_icmp_ne (tgt := 16) hx hb dX9_gainsIn_9 (by decide) (fun c9 => ?_) (fun c9 => ?_)
  · have h := (if_neg c9).symm.trans h
    refine lv_aload_n hx hb dX9_gainsIn_16 rfl (lv_at hl 0 rfl) ?_
    refine lv_iload_n hx hb dX9_gainsIn_17 rfl (lv_at hl 1 rfl) ?_
    refine lv_iconst (v := 2) hx hb dX9_gainsIn_18 rfl ?_
    refine rc_X9_45 X hW x1 (2 : Int32) ⟨⟨rfl, rfl⟩, Nat.le_of_ble_eq_true rfl, Nat.le_of_ble_eq_true rfl⟩ hl.1 (Nat.le_of_ble_eq_true rfl) dX9_gainsIn_19 ⟨Nat.zero_le _, Nat.zero_le _⟩ (fun H locs hW => ?_)
    obtain ⟨i22, h⟩ := lb_chk_in h
    refine lb_ild X hW hk0 i22 dX9_gainsIn_22 ?_
    refine lv_aload_n hx hb dX9_gainsIn_23 rfl (lv_at hl 0 rfl) ?_
    refine lv_iload_n hx hb dX9_gainsIn_24 rfl (lv_at hl 1 rfl) ?_
    refine lv_iconst (v := 3) hx hb dX9_gainsIn_25 rfl ?_
    refine rc_X9_45 X hW x1 (3 : Int32) ⟨⟨rfl, rfl⟩, Nat.le_of_ble_eq_true rfl, Nat.le_of_ble_eq_true rfl⟩ hl.1 (Nat.le_of_ble_eq_true rfl) dX9_gainsIn_26 ⟨Nat.zero_le _, Nat.zero_le _⟩ (fun H locs hW => ?_)
    obtain ⟨i29, h⟩ := lb_chk_in h
    refine lb_ild X hW hk0 i29 dX9_gainsIn_29 ?_
    refine rc_X9_49 X hW (σ k0 (f_X9_ofT x1 (2 : Int32)).toNatClampNeg) (σ k0 (f_X9_ofT x1 (3 : Int32)).toNatClampNeg) ⟨⟨rfl, rfl⟩, Nat.le_of_ble_eq_true rfl, Nat.le_of_ble_eq_true rfl⟩ hl.1 (Nat.le_of_ble_eq_true rfl) dX9_gainsIn_30 ⟨Nat.zero_le _, Nat.zero_le _⟩ (fun H locs hW => ?_)
    exact w_X9_gainsIn_33 X hk0 x1 x2 (f_X9_off (σ k0 (f_X9_ofT x1 (2 : Int32)).toNatClampNeg) (σ k0 (f_X9_ofT x1 (3 : Int32)).toNatClampNeg)) _ _ _ h hW (lv_sub hl [0, 1, 2] rfl)
  · have h := (if_pos c9).symm.trans h
    refine lv_iconst (v := 1) hx hb dX9_gainsIn_12 rfl ?_
    refine lv_goto (tgt := 33) hx hb dX9_gainsIn_13 (by decide) ?_
    exact w_X9_gainsIn_33 X hk0 x1 x2 (1 : Int32) _ _ _ h hW (lv_sub hl [0, 1, 2] rfl)
abbrev rmX9_wishedOff : Room := { frames := 1, cells := 0, slots := 0, locals := 22 }
def f_X9_wishedOff (σ : lb_Mem) (k0 : Nat) (x1 : Int32) (x2 : Int32) : Option Int32 := lb_chk (lb_ix (f_X9_ofT x1 (3 : Int32)) 61) (if (σ k0 (f_X9_ofT x1 (3 : Int32)).toNatClampNeg) = (6 : Int32) then some (2 : Int32) else lb_chk (lb_ix (f_X9_ofT x1 (3 : Int32)) 61) (lb_chk (lb_ix (f_X9_ofP x2 (0 : Int32)) 61) (some (f_X9_off (σ k0 (f_X9_ofT x1 (3 : Int32)).toNatClampNeg) (σ k0 (f_X9_ofP x2 (0 : Int32)).toNatClampNeg)))))
set_option maxRecDepth 20000 in
set_option maxHeartbeats 4000000 in
theorem m_X9_wishedOff (l : Launch) (G : lb_G) (σ : lb_Mem) {k0 : Nat} (hk0 : lb_ar k0 = 60 + 1) (x1 : Int32) (x2 : Int32) (qr : Int32) (h : f_X9_wishedOff σ k0 x1 x2 = some qr) : lb_M l yX9_wishedOff cX9_wishedOff 3 (some .int) rmX9_wishedOff [.ref (lb_ad G k0), .int x1, .int x2] G σ (lb_QI G qr σ) := by
  refine lb_start RX9 (by decide +kernel) rfl (Nat.le_of_ble_eq_true rfl) (fun p e s m below meth c X hW ls hl => ?_)
  have hx := X.1
  have hb := X.2.1
  have hl : lv_has ls 3 [(0, .ref (lb_ad G k0)), (1, .int x1), (2, .int x2)] := hl
  have h : (lb_chk (lb_ix (f_X9_ofT x1 (3 : Int32)) 61) (if (σ k0 (f_X9_ofT x1 (3 : Int32)).toNatClampNeg) = (6 : Int32) then some (2 : Int32) else lb_chk (lb_ix (f_X9_ofT x1 (3 : Int32)) 61) (lb_chk (lb_ix (f_X9_ofP x2 (0 : Int32)) 61) (some (f_X9_off (σ k0 (f_X9_ofT x1 (3 : Int32)).toNatClampNeg) (σ k0 (f_X9_ofP x2 (0 : Int32)).toNatClampNeg)))))) = some qr := h
  skip
  refine lv_aload_n hx hb dX9_wishedOff_0 rfl (lv_at hl 0 rfl) ?_
  refine lv_iload_n hx hb dX9_wishedOff_1 rfl (lv_at hl 1 rfl) ?_
  refine lv_iconst (v := 3) hx hb dX9_wishedOff_2 rfl ?_
  refine rc_X9_45 X hW x1 (3 : Int32) ⟨⟨rfl, rfl⟩, Nat.le_of_ble_eq_true rfl, Nat.le_of_ble_eq_true rfl⟩ hl.1 (Nat.le_of_ble_eq_true rfl) dX9_wishedOff_3 ⟨Nat.zero_le _, Nat.zero_le _⟩ (fun H locs hW => ?_)
  obtain ⟨i6, h⟩ := lb_chk_in h
  refine lb_ild X hW hk0 i6 dX9_wishedOff_6 ?_
  refine lv_bipush (v := 6) hx hb dX9_wishedOff_7 rfl ?_
  refine lv_icmp_ne (tgt := 16) hx hb dX9_wishedOff_9 (by decide) (fun c9 => ?_) (fun c9 => ?_)
  · have h := (if_neg c9).symm.trans h
    refine lv_aload_n hx hb dX9_wishedOff_16 rfl (lv_at hl 0 rfl) ?_
    refine lv_iload_n hx hb dX9_wishedOff_17 rfl (lv_at hl 1 rfl) ?_
    refine lv_iconst (v := 3) hx hb dX9_wishedOff_18 rfl ?_
    refine rc_X9_45 X hW x1 (3 : Int32) ⟨⟨rfl, rfl⟩, Nat.le_of_ble_eq_true rfl, Nat.le_of_ble_eq_true rfl⟩ hl.1 (Nat.le_of_ble_eq_true rfl) dX9_wishedOff_19 ⟨Nat.zero_le _, Nat.zero_le _⟩ (fun H locs hW => ?_)
    obtain ⟨i22, h⟩ := lb_chk_in h
    refine lb_ild X hW hk0 i22 dX9_wishedOff_22 ?_
    refine lv_aload_n hx hb dX9_wishedOff_23 rfl (lv_at hl 0 rfl) ?_
    refine lv_iload_n hx hb dX9_wishedOff_24 rfl (lv_at hl 2 rfl) ?_
    refine lv_iconst (v := 0) hx hb dX9_wishedOff_25 rfl ?_
    refine rc_X9_52 X hW x2 (0 : Int32) ⟨⟨rfl, rfl⟩, Nat.le_of_ble_eq_true rfl, Nat.le_of_ble_eq_true rfl⟩ hl.1 (Nat.le_of_ble_eq_true rfl) dX9_wishedOff_26 ⟨Nat.zero_le _, Nat.zero_le _⟩ (fun H locs hW => ?_)
    obtain ⟨i29, h⟩ := lb_chk_in h
    refine lb_ild X hW hk0 i29 dX9_wishedOff_29 ?_
    refine rc_X9_49 X hW (σ k0 (f_X9_ofT x1 (3 : Int32)).toNatClampNeg) (σ k0 (f_X9_ofP x2 (0 : Int32)).toNatClampNeg) ⟨⟨rfl, rfl⟩, Nat.le_of_ble_eq_true rfl, Nat.le_of_ble_eq_true rfl⟩ hl.1 (Nat.le_of_ble_eq_true rfl) dX9_wishedOff_30 ⟨Nat.zero_le _, Nat.zero_le _⟩ (fun H locs hW => ?_)
    obtain rfl := Option.some.inj h
    exact lb_iret X hW dX9_wishedOff_33
  · have h := (if_pos c9).symm.trans h
    refine lv_iconst (v := 2) hx hb dX9_wishedOff_12 rfl ?_
    refine lv_goto (tgt := 33) hx hb dX9_wishedOff_13 (by decide) ?_
    obtain rfl := Option.some.inj h
    exact lb_iret X hW dX9_wishedOff_33
theorem rc_X9_55 {p : Program} {l : Launch} {e : Env} {R : Room} {s : State} {m : MethodId} {args : Array Value} {below : List Frame} {meth : Method} {c : Code} {H : Heap} {locs : List Loc} {cells slots : Nat} {Q : State → Prop} {cc : ByteArray} {pc nL : Nat} {ls : Array Slot} {rest : List Value} {G : lb_G} {σ : lb_Mem} {ret : Option FieldType} (X : lb_C G p s m args meth c cc nL RX9 ret) (hW : lb_W G s σ H locs) {k0 : Nat} (hk0 : lb_ar k0 = 60 + 1) {x1 : Int32} {x2 : Int32} {qr : Int32} (h : f_X9_wishedOff σ k0 x1 x2 = some qr) (hR : lb_room rmX9_wishedOff R 3) (hls : ls.size = nL) (hrest : (rest.map fun v => v.category).sum ≤ 8) (d : decode cc pc = .ok (.invokestatic 55, 3)) (hcap : cells ≤ R.cells ∧ slots ≤ R.slots) (kk : ∀ (H1 : Heap) (locs1 : List Loc), lb_W G s σ H1 locs1 → W p l e R s m args below meth c H1 locs1 cells slots Q (F0 m (pc + 3) ls (.int qr :: rest))) : W p l e R s m args below meth c H locs cells slots Q (F0 m pc ls (.int x2 :: .int x1 :: .ref (lb_ad G k0) :: rest)) :=
  lb_goI hW (lb_runS (As := [.ref (lb_ad G k0), .int x1, .int x2]) X hW (m_X9_wishedOff l G σ hk0 x1 x2 qr h) (n := 3) ⟨qw_874, qw_52, qw_876, by decide +kernel⟩ hR qw_875 rfl hls hrest d hcap) kk
abbrev rmX9_opensIn : Room := { frames := 2, cells := 0, slots := 0, locals := 44 }
def f_X9_opensIn_5 (σ : lb_Mem) (k0 : Nat) : Nat → Int32 → Int32 → Int32 → Option Int32
  | 0, _, _, _ => none
  | n + 1, x1, x2, x3 => if (σ k0 (0 : Int32).toNatClampNeg) ≤ x3 then some x2 else lb_chk (lb_ix (f_X9_ofT x3 (5 : Int32)) 61) (if (σ k0 (f_X9_ofT x3 (5 : Int32)).toNatClampNeg) = x1 then lb_chk (lb_ix (f_X9_ofT x3 (4 : Int32)) 61) (if (σ k0 (f_X9_ofT x3 (4 : Int32)).toNatClampNeg) ≤ 0 then f_X9_opensIn_5 σ k0 n x1 x2 (x3 + 1) else if x2 < 0 then f_X9_opensIn_5 σ k0 n x1 x3 (x3 + 1) else (f_X9_wishedOff σ k0 x3 x1).bind (fun q40 => (f_X9_wishedOff σ k0 x2 x1).bind (fun q46 => if q46 ≤ q40 then f_X9_opensIn_5 σ k0 n x1 x2 (x3 + 1) else f_X9_opensIn_5 σ k0 n x1 x3 (x3 + 1)))) else f_X9_opensIn_5 σ k0 n x1 x2 (x3 + 1))
set_option maxRecDepth 20000 in
set_option maxHeartbeats 4000000 in
theorem w_X9_opensIn_5 {p : Program} {l : Launch} {e : Env} {s : State} {m : MethodId} {args : Array Value} {below : List Frame} {meth : Method} {c : Code} {G : lb_G} {σ : lb_Mem} {k0 : Nat} {qr : Int32} (X : lb_C G p s m args meth c cX9_opensIn 4 RX9 (some .int)) (hk0 : lb_ar k0 = 60 + 1) : ∀ (n : Nat) (x1 : Int32) (x2 : Int32) (x3 : Int32) (H : Heap) (locs : List Loc) (ls : Array Slot), f_X9_opensIn_5 σ k0 n x1 x2 x3 = some qr → lb_W G s σ H locs → lv_has ls 4 [(0, .ref (lb_ad G k0)), (1, .int x1), (2, .int x2), (3, .int x3)] → W p l e rmX9_opensIn s m args below meth c H locs 0 0 (MQ below (lb_QI G qr σ) args s 0 0 (lb_A G)) (F0 m 5 ls []) := by
  have hx := X.1
  have hb := X.2.1
  intro n
  induction n with
  | zero => intro x1 x2 x3 H locs ls h hW hl; exact absurd h (fun z => by cases z)
  | succ n ih =>
    intro x1 x2 x3 H locs ls h hW hl
    have h : (if (σ k0 (0 : Int32).toNatClampNeg) ≤ x3 then some x2 else lb_chk (lb_ix (f_X9_ofT x3 (5 : Int32)) 61) (if (σ k0 (f_X9_ofT x3 (5 : Int32)).toNatClampNeg) = x1 then lb_chk (lb_ix (f_X9_ofT x3 (4 : Int32)) 61) (if (σ k0 (f_X9_ofT x3 (4 : Int32)).toNatClampNeg) ≤ 0 then f_X9_opensIn_5 σ k0 n x1 x2 (x3 + 1) else if x2 < 0 then f_X9_opensIn_5 σ k0 n x1 x3 (x3 + 1) else (f_X9_wishedOff σ k0 x3 x1).bind (fun q40 => (f_X9_wishedOff σ k0 x2 x1).bind (fun q46 => if q46 ≤ q40 then f_X9_opensIn_5 σ k0 n x1 x2 (x3 + 1) else f_X9_opensIn_5 σ k0 n x1 x3 (x3 + 1)))) else f_X9_opensIn_5 σ k0 n x1 x2 (x3 + 1))) = some qr := h
    refine lv_iload_n hx hb dX9_opensIn_5 rfl (lv_at hl 3 rfl) ?_
    refine lv_aload_n hx hb dX9_opensIn_6 rfl (lv_at hl 0 rfl) ?_
    refine lv_iconst (v := 0) hx hb dX9_opensIn_7 rfl ?_
    refine lb_ild X hW hk0 (lb_inC rfl) dX9_opensIn_8 ?_
    refine lv_icmp_ge (tgt := 60) hx hb dX9_opensIn_9 (by decide) (fun c9 => ?_) (fun c9 => ?_)
    · have h := (if_pos c9).symm.trans h
      refine lv_iload_n hx hb dX9_opensIn_60 rfl (lv_at hl 2 rfl) ?_
      obtain rfl := Option.some.inj h
      exact lb_iret X hW dX9_opensIn_61
    · have h := (if_neg c9).symm.trans h
      refine lv_aload_n hx hb dX9_opensIn_12 rfl (lv_at hl 0 rfl) ?_
      refine lv_iload_n hx hb dX9_opensIn_13 rfl (lv_at hl 3 rfl) ?_
      refine lv_iconst (v := 5) hx hb dX9_opensIn_14 rfl ?_
      refine rc_X9_45 X hW x3 (5 : Int32) ⟨⟨rfl, rfl⟩, Nat.le_of_ble_eq_true rfl, Nat.le_of_ble_eq_true rfl⟩ hl.1 (Nat.le_of_ble_eq_true rfl) dX9_opensIn_15 ⟨Nat.zero_le _, Nat.zero_le _⟩ (fun H locs hW => ?_)
      obtain ⟨i18, h⟩ := lb_chk_in h
      refine lb_ild X hW hk0 i18 dX9_opensIn_18 ?_
      refine lv_iload_n hx hb dX9_opensIn_19 rfl (lv_at hl 1 rfl) ?_
      refine lv_icmp_ne (tgt := 54) hx hb dX9_opensIn_20 (by decide) (fun c20 => ?_) (fun c20 => ?_)
      · have h := (if_neg c20).symm.trans h
        refine lv_iinc (v := (x3 + 1)) (lv' := [(3, .int (x3 + 1)), (0, .ref (lb_ad G k0)), (1, .int x1), (2, .int x2)]) hx hb dX9_opensIn_54 hl (k := 3) rfl rfl (by decide) rfl (fun ls hl => ?_)
        refine lv_goto (tgt := 5) hx hb dX9_opensIn_57 (by decide) ?_
        exact ih x1 x2 (x3 + 1) _ _ _ h hW (lv_sub hl [1, 2, 3, 0] rfl)
      · have h := (if_pos c20).symm.trans h
        refine lv_aload_n hx hb dX9_opensIn_23 rfl (lv_at hl 0 rfl) ?_
        refine lv_iload_n hx hb dX9_opensIn_24 rfl (lv_at hl 3 rfl) ?_
        refine lv_iconst (v := 4) hx hb dX9_opensIn_25 rfl ?_
        refine rc_X9_45 X hW x3 (4 : Int32) ⟨⟨rfl, rfl⟩, Nat.le_of_ble_eq_true rfl, Nat.le_of_ble_eq_true rfl⟩ hl.1 (Nat.le_of_ble_eq_true rfl) dX9_opensIn_26 ⟨Nat.zero_le _, Nat.zero_le _⟩ (fun H locs hW => ?_)
        obtain ⟨i29, h⟩ := lb_chk_in h
        refine lb_ild X hW hk0 i29 dX9_opensIn_29 ?_
        refine lv_if_le (tgt := 54) hx hb dX9_opensIn_30 (by decide) (fun c30 => ?_) (fun c30 => ?_)
        · have h := (if_pos c30).symm.trans h
          refine lv_iinc (v := (x3 + 1)) (lv' := [(3, .int (x3 + 1)), (0, .ref (lb_ad G k0)), (1, .int x1), (2, .int x2)]) hx hb dX9_opensIn_54 hl (k := 3) rfl rfl (by decide) rfl (fun ls hl => ?_)
          refine lv_goto (tgt := 5) hx hb dX9_opensIn_57 (by decide) ?_
          exact ih x1 x2 (x3 + 1) _ _ _ h hW (lv_sub hl [1, 2, 3, 0] rfl)
        · have h := (if_neg c30).symm.trans h
          refine lv_iload_n hx hb dX9_opensIn_33 rfl (lv_at hl 2 rfl) ?_
          refine lv_if_lt (tgt := 52) hx hb dX9_opensIn_34 (by decide) (fun c34 => ?_) (fun c34 => ?_)
          · have h := (if_pos c34).symm.trans h
            refine lv_iload_n hx hb dX9_opensIn_52 rfl (lv_at hl 3 rfl) ?_
            refine lv_istore_n (lv' := [(2, .int x3), (0, .ref (lb_ad G k0)), (1, .int x1), (3, .int x3)]) hx hb dX9_opensIn_53 rfl hl (by decide) rfl (fun ls hl => ?_)
            refine lv_iinc (v := (x3 + 1)) (lv' := [(3, .int (x3 + 1)), (2, .int x3), (0, .ref (lb_ad G k0)), (1, .int x1)]) hx hb dX9_opensIn_54 hl (k := 3) rfl rfl (by decide) rfl (fun ls hl => ?_)
            refine lv_goto (tgt := 5) hx hb dX9_opensIn_57 (by decide) ?_
            exact ih x1 x3 (x3 + 1) _ _ _ h hW (lv_sub hl [2, 3, 1, 0] rfl)
          · have h := (if_neg c34).symm.trans h
            refine lv_aload_n hx hb dX9_opensIn_37 rfl (lv_at hl 0 rfl) ?_
            refine lv_iload_n hx hb dX9_opensIn_38 rfl (lv_at hl 3 rfl) ?_
            refine lv_iload_n hx hb dX9_opensIn_39 rfl (lv_at hl 1 rfl) ?_
            obtain ⟨q40, e40, h⟩ := lb_bind h
            refine rc_X9_55 X hW hk0 e40 ⟨⟨rfl, rfl⟩, Nat.le_of_ble_eq_true rfl, Nat.le_of_ble_eq_true rfl⟩ hl.1 (Nat.le_of_ble_eq_true rfl) dX9_opensIn_40 ⟨Nat.zero_le _, Nat.zero_le _⟩ (fun H locs hW => ?_)
            refine lv_aload_n hx hb dX9_opensIn_43 rfl (lv_at hl 0 rfl) ?_
            refine lv_iload_n hx hb dX9_opensIn_44 rfl (lv_at hl 2 rfl) ?_
            refine lv_iload_n hx hb dX9_opensIn_45 rfl (lv_at hl 1 rfl) ?_
            obtain ⟨q46, e46, h⟩ := lb_bind h
            refine rc_X9_55 X hW hk0 e46 ⟨⟨rfl, rfl⟩, Nat.le_of_ble_eq_true rfl, Nat.le_of_ble_eq_true rfl⟩ hl.1 (Nat.le_of_ble_eq_true rfl) dX9_opensIn_46 ⟨Nat.zero_le _, Nat.zero_le _⟩ (fun H locs hW => ?_)
            refine lv_icmp_ge (tgt := 54) hx hb dX9_opensIn_49 (by decide) (fun c49 => ?_) (fun c49 => ?_)
            · have h := (if_pos c49).symm.trans h
              refine lv_iinc (v := (x3 + 1)) (lv' := [(3, .int (x3 + 1)), (0, .ref (lb_ad G k0)), (1, .int x1), (2, .int x2)]) hx hb dX9_opensIn_54 hl (k := 3) rfl rfl (by decide) rfl (fun ls hl => ?_)
              refine lv_goto (tgt := 5) hx hb dX9_opensIn_57 (by decide) ?_
              exact ih x1 x2 (x3 + 1) _ _ _ h hW (lv_sub hl [1, 2, 3, 0] rfl)
            · have h := (if_neg c49).symm.trans h
              refine lv_iload_n hx hb dX9_opensIn_52 rfl (lv_at hl 3 rfl) ?_
              refine lv_istore_n (lv' := [(2, .int x3), (0, .ref (lb_ad G k0)), (1, .int x1), (3, .int x3)]) hx hb dX9_opensIn_53 rfl hl (by decide) rfl (fun ls hl => ?_)
              refine lv_iinc (v := (x3 + 1)) (lv' := [(3, .int (x3 + 1)), (2, .int x3), (0, .ref (lb_ad G k0)), (1, .int x1)]) hx hb dX9_opensIn_54 hl (k := 3) rfl rfl (by decide) rfl (fun ls hl => ?_)
              refine lv_goto (tgt := 5) hx hb dX9_opensIn_57 (by decide) ?_
              exact ih x1 x3 (x3 + 1) _ _ _ h hW (lv_sub hl [2, 3, 1, 0] rfl)
def f_X9_opensIn (σ : lb_Mem) (k0 : Nat) (x1 : Int32) : Option Int32 := f_X9_opensIn_5 σ k0 lb_N x1 (-9 : Int32) (0 : Int32)
set_option maxRecDepth 20000 in
set_option maxHeartbeats 4000000 in
theorem m_X9_opensIn (l : Launch) (G : lb_G) (σ : lb_Mem) {k0 : Nat} (hk0 : lb_ar k0 = 60 + 1) (x1 : Int32) (qr : Int32) (h : f_X9_opensIn σ k0 x1 = some qr) : lb_M l yX9_opensIn cX9_opensIn 4 (some .int) rmX9_opensIn [.ref (lb_ad G k0), .int x1] G σ (lb_QI G qr σ) := by
  refine lb_start RX9 (by decide +kernel) rfl (Nat.le_of_ble_eq_true rfl) (fun p e s m below meth c X hW ls hl => ?_)
  have hx := X.1
  have hb := X.2.1
  have hl : lv_has ls 4 [(0, .ref (lb_ad G k0)), (1, .int x1)] := hl
  have h : (f_X9_opensIn_5 σ k0 lb_N x1 (-9 : Int32) (0 : Int32)) = some qr := h
  skip
  refine lv_bipush (v := -9) hx hb dX9_opensIn_0 rfl ?_
  refine lv_istore_n (lv' := [(2, .int (-9 : Int32)), (0, .ref (lb_ad G k0)), (1, .int x1)]) hx hb dX9_opensIn_2 rfl hl (by decide) rfl (fun ls hl => ?_)
  refine lv_iconst (v := 0) hx hb dX9_opensIn_3 rfl ?_
  refine lv_istore_n (lv' := [(3, .int (0 : Int32)), (2, .int (-9 : Int32)), (0, .ref (lb_ad G k0)), (1, .int x1)]) hx hb dX9_opensIn_4 rfl hl (by decide) rfl (fun ls hl => ?_)
  exact w_X9_opensIn_5 X hk0 lb_N x1 (-9 : Int32) (0 : Int32) _ _ _ h hW (lv_sub hl [2, 3, 1, 0] rfl)
theorem rc_X9_59 {p : Program} {l : Launch} {e : Env} {R : Room} {s : State} {m : MethodId} {args : Array Value} {below : List Frame} {meth : Method} {c : Code} {H : Heap} {locs : List Loc} {cells slots : Nat} {Q : State → Prop} {cc : ByteArray} {pc nL : Nat} {ls : Array Slot} {rest : List Value} {G : lb_G} {σ : lb_Mem} {ret : Option FieldType} (X : lb_C G p s m args meth c cc nL RX9 ret) (hW : lb_W G s σ H locs) {k0 : Nat} (hk0 : lb_ar k0 = 60 + 1) {x1 : Int32} {qr : Int32} (h : f_X9_opensIn σ k0 x1 = some qr) (hR : lb_room rmX9_opensIn R 4) (hls : ls.size = nL) (hrest : (rest.map fun v => v.category).sum ≤ 8) (d : decode cc pc = .ok (.invokestatic 59, 3)) (hcap : cells ≤ R.cells ∧ slots ≤ R.slots) (kk : ∀ (H1 : Heap) (locs1 : List Loc), lb_W G s σ H1 locs1 → W p l e R s m args below meth c H1 locs1 cells slots Q (F0 m (pc + 3) ls (.int qr :: rest))) : W p l e R s m args below meth c H locs cells slots Q (F0 m pc ls (.int x1 :: .ref (lb_ad G k0) :: rest)) :=
  lb_goI hW (lb_runS (As := [.ref (lb_ad G k0), .int x1]) X hW (m_X9_opensIn l G σ hk0 x1 qr h) (n := 2) ⟨qw_871, qw_52, qw_873, by decide +kernel⟩ hR qw_872 rfl hls hrest d hcap) kk
theorem rc_X9_63 {p : Program} {l : Launch} {e : Env} {R : Room} {s : State} {m : MethodId} {args : Array Value} {below : List Frame} {meth : Method} {c : Code} {H : Heap} {locs : List Loc} {cells slots : Nat} {Q : State → Prop} {cc : ByteArray} {pc nL : Nat} {ls : Array Slot} {rest : List Value} {G : lb_G} {σ : lb_Mem} {ret : Option FieldType} (X : lb_C G p s m args meth c cc nL RX9 ret) (hW : lb_W G s σ H locs) {k0 : Nat} (hk0 : lb_ar k0 = 60 + 1) {x1 : Int32} {x2 : Int32} {qr : Int32} (h : f_X9_gainsIn σ k0 x1 x2 = some qr) (hR : lb_room rmX9_gainsIn R 7) (hls : ls.size = nL) (hrest : (rest.map fun v => v.category).sum ≤ 8) (d : decode cc pc = .ok (.invokestatic 63, 3)) (hcap : cells ≤ R.cells ∧ slots ≤ R.slots) (kk : ∀ (H1 : Heap) (locs1 : List Loc), lb_W G s σ H1 locs1 → W p l e R s m args below meth c H1 locs1 cells slots Q (F0 m (pc + 3) ls (.int qr :: rest))) : W p l e R s m args below meth c H locs cells slots Q (F0 m pc ls (.int x2 :: .int x1 :: .ref (lb_ad G k0) :: rest)) :=
  lb_goI hW (lb_runS (As := [.ref (lb_ad G k0), .int x1, .int x2]) X hW (m_X9_gainsIn l G σ hk0 x1 x2 qr h) (n := 3) ⟨qw_880, qw_52, qw_882, by decide +kernel⟩ hR qw_881 rfl hls hrest d hcap) kk
theorem rc_X9_66 {p : Program} {l : Launch} {e : Env} {R : Room} {s : State} {m : MethodId} {args : Array Value} {below : List Frame} {meth : Method} {c : Code} {H : Heap} {locs : List Loc} {cells slots : Nat} {Q : State → Prop} {cc : ByteArray} {pc nL : Nat} {ls : Array Slot} {rest : List Value} {G : lb_G} {σ : lb_Mem} {ret : Option FieldType} (X : lb_C G p s m args meth c cc nL RX9 ret) (hW : lb_W G s σ H locs) (x0 : Int32) (hR : lb_room rmX9_held R 1) (hls : ls.size = nL) (hrest : (rest.map fun v => v.category).sum ≤ 8) (d : decode cc pc = .ok (.invokestatic 66, 3)) (hcap : cells ≤ R.cells ∧ slots ≤ R.slots) (kk : ∀ (H1 : Heap) (locs1 : List Loc), lb_W G s σ H1 locs1 → W p l e R s m args below meth c H1 locs1 cells slots Q (F0 m (pc + 3) ls (.int (f_X9_held x0) :: rest))) : W p l e R s m args below meth c H locs cells slots Q (F0 m pc ls (.int x0 :: rest)) :=
  lb_goI hW (lb_runS (As := [.int x0]) X hW (m_X9_held l G σ x0 _ rfl) (n := 1) ⟨qw_883, qw_52, qw_885, by decide +kernel⟩ hR qw_884 rfl hls hrest d hcap) kk
abbrev rmX9_year : Room := { frames := 3, cells := 0, slots := 0, locals := 67 }
def f_X9_year_49 (k0 : Nat) (kc9 : Int32 → lb_Mem → Option lb_Mem) (x1 : Int32) (x2 : Int32) (σ : lb_Mem) (y1 : Int32) (y2 : Int32) (y3 : Int32) : Option lb_Mem := lb_chk (lb_ix y1 61) (lb_let (lb_sto σ k0 y1.toNatClampNeg (f_X9_held (y2 + y3))) (fun s53 : lb_Mem => if x2 < 0 then kc9 (x1 + 1) s53 else lb_chk (lb_ix (f_X9_ofT x2 (4 : Int32)) 61) (lb_chk (lb_ix (f_X9_ofT x2 (4 : Int32)) 61) (lb_let (lb_sto s53 k0 (f_X9_ofT x2 (4 : Int32)).toNatClampNeg ((s53 k0 (f_X9_ofT x2 (4 : Int32)).toNatClampNeg) - (1 : Int32))) (fun s68 : lb_Mem => kc9 (x1 + 1) s68)))))
set_option maxRecDepth 20000 in
set_option maxHeartbeats 4000000 in
theorem w_X9_year_49 {p : Program} {l : Launch} {e : Env} {s : State} {m : MethodId} {args : Array Value} {below : List Frame} {meth : Method} {c : Code} {G : lb_G} {k0 : Nat} {qr : lb_Mem} (X : lb_C G p s m args meth c cX9_year 3 RX9 none) (hk0 : lb_ar k0 = 60 + 1) {kc9 : Int32 → lb_Mem → Option lb_Mem} (hc9 : ∀ (x1 : Int32) (σ : lb_Mem) (H : Heap) (locs : List Loc) (ls : Array Slot), kc9 x1 σ = some qr → lb_W G s σ H locs → lv_has ls 3 [(0, .ref (lb_ad G k0)), (1, .int x1)] → W p l e rmX9_year s m args below meth c H locs 0 0 (MQ below (lb_QV G qr) args s 0 0 (lb_A G)) (F0 m 9 ls [])) : ∀ (x1 : Int32) (x2 : Int32) (σ : lb_Mem) (y1 : Int32) (y2 : Int32) (y3 : Int32) (H : Heap) (locs : List Loc) (ls : Array Slot), f_X9_year_49 k0 kc9 x1 x2 σ y1 y2 y3 = some qr → lb_W G s σ H locs → lv_has ls 3 [(0, .ref (lb_ad G k0)), (1, .int x1), (2, .int x2)] → W p l e rmX9_year s m args below meth c H locs 0 0 (MQ below (lb_QV G qr) args s 0 0 (lb_A G)) (F0 m 49 ls [.int y3, .int y2, .int y1, .ref (lb_ad G k0)]) := by
  have hx := X.1
  have hb := X.2.1
  intro x1 x2 σ y1 y2 y3 H locs ls h hW hl
  have h : (lb_chk (lb_ix y1 61) (lb_let (lb_sto σ k0 y1.toNatClampNeg (f_X9_held (y2 + y3))) (fun s53 : lb_Mem => if x2 < 0 then kc9 (x1 + 1) s53 else lb_chk (lb_ix (f_X9_ofT x2 (4 : Int32)) 61) (lb_chk (lb_ix (f_X9_ofT x2 (4 : Int32)) 61) (lb_let (lb_sto s53 k0 (f_X9_ofT x2 (4 : Int32)).toNatClampNeg ((s53 k0 (f_X9_ofT x2 (4 : Int32)).toNatClampNeg) - (1 : Int32))) (fun s68 : lb_Mem => kc9 (x1 + 1) s68)))))) = some qr := h
  refine lv_iadd hx hb dX9_year_49 ?_
  refine rc_X9_66 X hW (y2 + y3) ⟨⟨rfl, rfl⟩, Nat.le_of_ble_eq_true rfl, Nat.le_of_ble_eq_true rfl⟩ hl.1 (Nat.le_of_ble_eq_true rfl) dX9_year_50 ⟨Nat.zero_le _, Nat.zero_le _⟩ (fun H locs hW => ?_)
  obtain ⟨i53, h⟩ := lb_chk_in h
  refine lb_ist X hW hk0 i53 dX9_year_53 (fun H locs hW => ?_)
  obtain ⟨s53, e53⟩ : ∃ z, z = lb_sto σ k0 y1.toNatClampNeg (f_X9_held (y2 + y3)) := ⟨_, rfl⟩
  rw [← e53] at hW
  have h := lb_letI e53 h
  refine lv_iload_n hx hb dX9_year_54 rfl (lv_at hl 2 rfl) ?_
  refine lv_if_lt (tgt := 69) hx hb dX9_year_55 (by decide) (fun c55 => ?_) (fun c55 => ?_)
  · have h := (if_pos c55).symm.trans h
    refine lv_iinc (v := (x1 + 1)) (lv' := [(1, .int (x1 + 1)), (0, .ref (lb_ad G k0)), (2, .int x2)]) hx hb dX9_year_69 hl (k := 1) rfl rfl (by decide) rfl (fun ls hl => ?_)
    refine lv_goto (tgt := 9) hx hb dX9_year_72 (by decide) ?_
    exact hc9 (x1 + 1) s53 _ _ _ h hW (lv_sub hl [1, 0] rfl)
  · have h := (if_neg c55).symm.trans h
    refine lv_aload_n hx hb dX9_year_58 rfl (lv_at hl 0 rfl) ?_
    refine lv_iload_n hx hb dX9_year_59 rfl (lv_at hl 2 rfl) ?_
    refine lv_iconst (v := 4) hx hb dX9_year_60 rfl ?_
    refine rc_X9_45 X hW x2 (4 : Int32) ⟨⟨rfl, rfl⟩, Nat.le_of_ble_eq_true rfl, Nat.le_of_ble_eq_true rfl⟩ hl.1 (Nat.le_of_ble_eq_true rfl) dX9_year_61 ⟨Nat.zero_le _, Nat.zero_le _⟩ (fun H locs hW => ?_)
    refine lv_dup2_11 hx hb dX9_year_64 rfl rfl ?_
    obtain ⟨i65, h⟩ := lb_chk_in h
    refine lb_ild X hW hk0 i65 dX9_year_65 ?_
    refine lv_iconst (v := 1) hx hb dX9_year_66 rfl ?_
    refine lv_isub hx hb dX9_year_67 ?_
    obtain ⟨i68, h⟩ := lb_chk_in h
    refine lb_ist X hW hk0 i68 dX9_year_68 (fun H locs hW => ?_)
    obtain ⟨s68, e68⟩ : ∃ z, z = lb_sto s53 k0 (f_X9_ofT x2 (4 : Int32)).toNatClampNeg ((s53 k0 (f_X9_ofT x2 (4 : Int32)).toNatClampNeg) - (1 : Int32)) := ⟨_, rfl⟩
    rw [← e68] at hW
    have h := lb_letI e68 h
    refine lv_iinc (v := (x1 + 1)) (lv' := [(1, .int (x1 + 1)), (0, .ref (lb_ad G k0)), (2, .int x2)]) hx hb dX9_year_69 hl (k := 1) rfl rfl (by decide) rfl (fun ls hl => ?_)
    refine lv_goto (tgt := 9) hx hb dX9_year_72 (by decide) ?_
    exact hc9 (x1 + 1) s68 _ _ _ h hW (lv_sub hl [1, 0] rfl)
def f_X9_year_9 (k0 : Nat) : Nat → Int32 → lb_Mem → Option lb_Mem
  | 0, _, _ => none
  | n + 1, x1, σ => if (σ k0 (1 : Int32).toNatClampNeg) ≤ x1 then some σ else (f_X9_opensIn σ k0 x1).bind (fun q18 => lb_chk (lb_ix (f_X9_ofP x1 (1 : Int32)) 61) (if 0 ≤ q18 then (f_X9_gainsIn σ k0 q18 x1).bind (fun q46 => f_X9_year_49 k0 (fun (x1 : Int32) (σ : lb_Mem) => f_X9_year_9 k0 n x1 σ) x1 q18 σ (f_X9_ofP x1 (1 : Int32)) (σ k0 (f_X9_ofP x1 (1 : Int32)).toNatClampNeg) q46) else f_X9_year_49 k0 (fun (x1 : Int32) (σ : lb_Mem) => f_X9_year_9 k0 n x1 σ) x1 q18 σ (f_X9_ofP x1 (1 : Int32)) (σ k0 (f_X9_ofP x1 (1 : Int32)).toNatClampNeg) (-1 : Int32)))
set_option maxRecDepth 20000 in
set_option maxHeartbeats 4000000 in
theorem w_X9_year_9 {p : Program} {l : Launch} {e : Env} {s : State} {m : MethodId} {args : Array Value} {below : List Frame} {meth : Method} {c : Code} {G : lb_G} {k0 : Nat} {qr : lb_Mem} (X : lb_C G p s m args meth c cX9_year 3 RX9 none) (hk0 : lb_ar k0 = 60 + 1) : ∀ (n : Nat) (x1 : Int32) (σ : lb_Mem) (H : Heap) (locs : List Loc) (ls : Array Slot), f_X9_year_9 k0 n x1 σ = some qr → lb_W G s σ H locs → lv_has ls 3 [(0, .ref (lb_ad G k0)), (1, .int x1)] → W p l e rmX9_year s m args below meth c H locs 0 0 (MQ below (lb_QV G qr) args s 0 0 (lb_A G)) (F0 m 9 ls []) := by
  have hx := X.1
  have hb := X.2.1
  intro n
  induction n with
  | zero => intro x1 σ H locs ls h hW hl; exact absurd h (fun z => by cases z)
  | succ n ih =>
    intro x1 σ H locs ls h hW hl
    have h : (if (σ k0 (1 : Int32).toNatClampNeg) ≤ x1 then some σ else (f_X9_opensIn σ k0 x1).bind (fun q18 => lb_chk (lb_ix (f_X9_ofP x1 (1 : Int32)) 61) (if 0 ≤ q18 then (f_X9_gainsIn σ k0 q18 x1).bind (fun q46 => f_X9_year_49 k0 (fun (x1 : Int32) (σ : lb_Mem) => f_X9_year_9 k0 n x1 σ) x1 q18 σ (f_X9_ofP x1 (1 : Int32)) (σ k0 (f_X9_ofP x1 (1 : Int32)).toNatClampNeg) q46) else f_X9_year_49 k0 (fun (x1 : Int32) (σ : lb_Mem) => f_X9_year_9 k0 n x1 σ) x1 q18 σ (f_X9_ofP x1 (1 : Int32)) (σ k0 (f_X9_ofP x1 (1 : Int32)).toNatClampNeg) (-1 : Int32)))) = some qr := h
    refine lv_iload_n hx hb dX9_year_9 rfl (lv_at hl 1 rfl) ?_
    refine lv_aload_n hx hb dX9_year_10 rfl (lv_at hl 0 rfl) ?_
    refine lv_iconst (v := 1) hx hb dX9_year_11 rfl ?_
    refine lb_ild X hW hk0 (lb_inC rfl) dX9_year_12 ?_
    refine lv_icmp_ge (tgt := 75) hx hb dX9_year_13 (by decide) (fun c13 => ?_) (fun c13 => ?_)
    · have h := (if_pos c13).symm.trans h
      obtain rfl := Option.some.inj h
      exact lb_vret X hW dX9_year_75
    · have h := (if_neg c13).symm.trans h
      refine lv_aload_n hx hb dX9_year_16 rfl (lv_at hl 0 rfl) ?_
      refine lv_iload_n hx hb dX9_year_17 rfl (lv_at hl 1 rfl) ?_
      obtain ⟨q18, e18, h⟩ := lb_bind h
      refine rc_X9_59 X hW hk0 e18 ⟨⟨rfl, rfl⟩, Nat.le_of_ble_eq_true rfl, Nat.le_of_ble_eq_true rfl⟩ hl.1 (Nat.le_of_ble_eq_true rfl) dX9_year_18 ⟨Nat.zero_le _, Nat.zero_le _⟩ (fun H locs hW => ?_)
      refine lv_istore_n (lv' := [(2, .int q18), (0, .ref (lb_ad G k0)), (1, .int x1)]) hx hb dX9_year_21 rfl hl (by decide) rfl (fun ls hl => ?_)
      refine lv_aload_n hx hb dX9_year_22 rfl (lv_at hl 1 rfl) ?_
      refine lv_iload_n hx hb dX9_year_23 rfl (lv_at hl 2 rfl) ?_
      refine lv_iconst (v := 1) hx hb dX9_year_24 rfl ?_
      refine rc_X9_52 X hW x1 (1 : Int32) ⟨⟨rfl, rfl⟩, Nat.le_of_ble_eq_true rfl, Nat.le_of_ble_eq_true rfl⟩ hl.1 (Nat.le_of_ble_eq_true rfl) dX9_year_25 ⟨Nat.zero_le _, Nat.zero_le _⟩ (fun H locs hW => ?_)
      refine lv_aload_n hx hb dX9_year_28 rfl (lv_at hl 1 rfl) ?_
      refine lv_iload_n hx hb dX9_year_29 rfl (lv_at hl 2 rfl) ?_
      refine lv_iconst (v := 1) hx hb dX9_year_30 rfl ?_
      refine rc_X9_52 X hW x1 (1 : Int32) ⟨⟨rfl, rfl⟩, Nat.le_of_ble_eq_true rfl, Nat.le_of_ble_eq_true rfl⟩ hl.1 (Nat.le_of_ble_eq_true rfl) dX9_year_31 ⟨Nat.zero_le _, Nat.zero_le _⟩ (fun H locs hW => ?_)
      obtain ⟨i34, h⟩ := lb_chk_in h
      refine lb_ild X hW hk0 i34 dX9_year_34 ?_
      refine lv_iload_n hx hb dX9_year_35 rfl (lv_at hl 0 rfl) ?_
      refine lv_if_ge (tgt := 43) hx hb dX9_year_36 (by decide) (fun c36 => ?_) (fun c36 => ?_)
      · have h := (if_pos c36).symm.trans h
        refine lv_aload_n hx hb dX9_year_43 rfl (lv_at hl 1 rfl) ?_
        refine lv_iload_n hx hb dX9_year_44 rfl (lv_at hl 0 rfl) ?_
        refine lv_iload_n hx hb dX9_year_45 rfl (lv_at hl 2 rfl) ?_
        obtain ⟨q46, e46, h⟩ := lb_bind h
        refine rc_X9_63 X hW hk0 e46 ⟨⟨rfl, rfl⟩, Nat.le_of_ble_eq_true rfl, Nat.le_of_ble_eq_true rfl⟩ hl.1 (Nat.le_of_ble_eq_true rfl) dX9_year_46 ⟨Nat.zero_le _, Nat.zero_le _⟩ (fun H locs hW => ?_)
        exact w_X9_year_49 X hk0 ih x1 q18 σ (f_X9_ofP x1 (1 : Int32)) (σ k0 (f_X9_ofP x1 (1 : Int32)).toNatClampNeg) q46 _ _ _ h hW (lv_sub hl [1, 2, 0] rfl)
      · have h := (if_neg c36).symm.trans h
        refine lv_iconst (v := -1) hx hb dX9_year_39 rfl ?_
        refine lv_goto (tgt := 49) hx hb dX9_year_40 (by decide) ?_
        exact w_X9_year_49 X hk0 ih x1 q18 σ (f_X9_ofP x1 (1 : Int32)) (σ k0 (f_X9_ofP x1 (1 : Int32)).toNatClampNeg) (-1 : Int32) _ _ _ h hW (lv_sub hl [1, 2, 0] rfl)
def f_X9_year (k0 : Nat) (σ : lb_Mem) : Option lb_Mem := lb_let (lb_sto σ k0 (2 : Int32).toNatClampNeg ((σ k0 (2 : Int32).toNatClampNeg) + (1 : Int32))) (fun s6 : lb_Mem => f_X9_year_9 k0 lb_N (0 : Int32) s6)
set_option maxRecDepth 20000 in
set_option maxHeartbeats 4000000 in
theorem m_X9_year (l : Launch) (G : lb_G) (σ : lb_Mem) {k0 : Nat} (hk0 : lb_ar k0 = 60 + 1) (qr : lb_Mem) (h : f_X9_year k0 σ = some qr) : lb_M l yX9_year cX9_year 3 none rmX9_year [.ref (lb_ad G k0)] G σ (lb_QV G qr) := by
  refine lb_start RX9 (by decide +kernel) rfl (Nat.le_of_ble_eq_true rfl) (fun p e s m below meth c X hW ls hl => ?_)
  have hx := X.1
  have hb := X.2.1
  have hl : lv_has ls 3 [(0, .ref (lb_ad G k0))] := hl
  have h : (lb_let (lb_sto σ k0 (2 : Int32).toNatClampNeg ((σ k0 (2 : Int32).toNatClampNeg) + (1 : Int32))) (fun s6 : lb_Mem => f_X9_year_9 k0 lb_N (0 : Int32) s6)) = some qr := h
  skip
  refine lv_aload_n hx hb dX9_year_0 rfl (lv_at hl 0 rfl) ?_
  refine lv_iconst (v := 2) hx hb dX9_year_1 rfl ?_
  refine lv_dup2_11 hx hb dX9_year_2 rfl rfl ?_
  refine lb_ild X hW hk0 (lb_inC rfl) dX9_year_3 ?_
  refine lv_iconst (v := 1) hx hb dX9_year_4 rfl ?_
  refine lv_iadd hx hb dX9_year_5 ?_
  refine lb_ist X hW hk0 (lb_inC rfl) dX9_year_6 (fun H locs hW => ?_)
  obtain ⟨s6, e6⟩ : ∃ z, z = lb_sto σ k0 (2 : Int32).toNatClampNeg ((σ k0 (2 : Int32).toNatClampNeg) + (1 : Int32)) := ⟨_, rfl⟩
  rw [← e6] at hW
  have h := lb_letI e6 h
  refine lv_iconst (v := 0) hx hb dX9_year_7 rfl ?_
  refine lv_istore_n (lv' := [(1, .int (0 : Int32)), (0, .ref (lb_ad G k0))]) hx hb dX9_year_8 rfl hl (by decide) rfl (fun ls hl => ?_)
  exact w_X9_year_9 X hk0 lb_N (0 : Int32) s6 _ _ _ h hW (lv_sub hl [1, 0] rfl)
theorem rc_X9_69 {p : Program} {l : Launch} {e : Env} {R : Room} {s : State} {m : MethodId} {args : Array Value} {below : List Frame} {meth : Method} {c : Code} {H : Heap} {locs : List Loc} {cells slots : Nat} {Q : State → Prop} {cc : ByteArray} {pc nL : Nat} {ls : Array Slot} {rest : List Value} {G : lb_G} {σ : lb_Mem} {ret : Option FieldType} (X : lb_C G p s m args meth c cc nL RX9 ret) (hW : lb_W G s σ H locs) {k0 : Nat} (hk0 : lb_ar k0 = 60 + 1) {qr : lb_Mem} (h : f_X9_year k0 σ = some qr) (hR : lb_room rmX9_year R 3) (hls : ls.size = nL) (hrest : (rest.map fun v => v.category).sum ≤ 8) (d : decode cc pc = .ok (.invokestatic 69, 3)) (hcap : cells ≤ R.cells ∧ slots ≤ R.slots) (kk : ∀ (H1 : Heap) (locs1 : List Loc), lb_W G s qr H1 locs1 → W p l e R s m args below meth c H1 locs1 cells slots Q (F0 m (pc + 3) ls rest)) : W p l e R s m args below meth c H locs cells slots Q (F0 m pc ls (.ref (lb_ad G k0) :: rest)) :=
  lb_goV hW (lb_runS (As := [.ref (lb_ad G k0)]) X hW (m_X9_year l G σ hk0 qr h) (n := 1) ⟨qw_868, qw_52, qw_870, by decide +kernel⟩ hR qw_869 rfl hls hrest d hcap) kk
abbrev rmX9_yearsOn : Room := { frames := 4, cells := 0, slots := 0, locals := 89 }
def f_X9_yearsOn_2 (k0 : Nat) : Nat → Int32 → Int32 → lb_Mem → Option lb_Mem
  | 0, _, _, _ => none
  | n + 1, x1, x2, σ => if x1 ≤ x2 then some σ else (f_X9_year k0 σ).bind (fun s8 => f_X9_yearsOn_2 k0 n x1 (x2 + 1) s8)
set_option maxRecDepth 20000 in
set_option maxHeartbeats 4000000 in
theorem w_X9_yearsOn_2 {p : Program} {l : Launch} {e : Env} {s : State} {m : MethodId} {args : Array Value} {below : List Frame} {meth : Method} {c : Code} {G : lb_G} {k0 : Nat} {qr : lb_Mem} (X : lb_C G p s m args meth c cX9_yearsOn 3 RX9 none) (hk0 : lb_ar k0 = 60 + 1) : ∀ (n : Nat) (x1 : Int32) (x2 : Int32) (σ : lb_Mem) (H : Heap) (locs : List Loc) (ls : Array Slot), f_X9_yearsOn_2 k0 n x1 x2 σ = some qr → lb_W G s σ H locs → lv_has ls 3 [(0, .ref (lb_ad G k0)), (1, .int x1), (2, .int x2)] → W p l e rmX9_yearsOn s m args below meth c H locs 0 0 (MQ below (lb_QV G qr) args s 0 0 (lb_A G)) (F0 m 2 ls []) := by
  have hx := X.1
  have hb := X.2.1
  intro n
  induction n with
  | zero => intro x1 x2 σ H locs ls h hW hl; exact absurd h (fun z => by cases z)
  | succ n ih =>
    intro x1 x2 σ H locs ls h hW hl
    have h : (if x1 ≤ x2 then some σ else (f_X9_year k0 σ).bind (fun s8 => f_X9_yearsOn_2 k0 n x1 (x2 + 1) s8)) = some qr := h
    refine lv_iload_n hx hb dX9_yearsOn_2 rfl (lv_at hl 2 rfl) ?_
    refine lv_iload_n hx hb dX9_yearsOn_3 rfl (lv_at hl 1 rfl) ?_
    refine lv_icmp_ge (tgt := 17) hx hb dX9_yearsOn_4 (by decide) (fun c4 => ?_) (fun c4 => ?_)
    · have h := (if_pos c4).symm.trans h
      obtain rfl := Option.some.inj h
      exact lb_vret X hW dX9_yearsOn_17
    · have h := (if_neg c4).symm.trans h
      refine lv_aload_n hx hb dX9_yearsOn_7 rfl (lv_at hl 0 rfl) ?_
      obtain ⟨s8, e8, h⟩ := lb_bind h
      refine rc_X9_69 X hW hk0 e8 ⟨⟨rfl, rfl⟩, Nat.le_of_ble_eq_true rfl, Nat.le_of_ble_eq_true rfl⟩ hl.1 (Nat.le_of_ble_eq_true rfl) dX9_yearsOn_8 ⟨Nat.zero_le _, Nat.zero_le _⟩ (fun H locs hW => ?_)
      refine lv_iinc (v := (x2 + 1)) (lv' := [(2, .int (x2 + 1)), (0, .ref (lb_ad G k0)), (1, .int x1)]) hx hb dX9_yearsOn_11 hl (k := 2) rfl rfl (by decide) rfl (fun ls hl => ?_)
      refine lv_goto (tgt := 2) hx hb dX9_yearsOn_14 (by decide) ?_
      exact ih x1 (x2 + 1) s8 _ _ _ h hW (lv_sub hl [1, 2, 0] rfl)
def f_X9_yearsOn (k0 : Nat) (x1 : Int32) (σ : lb_Mem) : Option lb_Mem := f_X9_yearsOn_2 k0 lb_N x1 (0 : Int32) σ
set_option maxRecDepth 20000 in
set_option maxHeartbeats 4000000 in
theorem m_X9_yearsOn (l : Launch) (G : lb_G) (σ : lb_Mem) {k0 : Nat} (hk0 : lb_ar k0 = 60 + 1) (x1 : Int32) (qr : lb_Mem) (h : f_X9_yearsOn k0 x1 σ = some qr) : lb_M l yX9_yearsOn cX9_yearsOn 3 none rmX9_yearsOn [.ref (lb_ad G k0), .int x1] G σ (lb_QV G qr) := by
  refine lb_start RX9 (by decide +kernel) rfl (Nat.le_of_ble_eq_true rfl) (fun p e s m below meth c X hW ls hl => ?_)
  have hx := X.1
  have hb := X.2.1
  have hl : lv_has ls 3 [(0, .ref (lb_ad G k0)), (1, .int x1)] := hl
  have h : (f_X9_yearsOn_2 k0 lb_N x1 (0 : Int32) σ) = some qr := h
  skip
  refine lv_iconst (v := 0) hx hb dX9_yearsOn_0 rfl ?_
  refine lv_istore_n (lv' := [(2, .int (0 : Int32)), (0, .ref (lb_ad G k0)), (1, .int x1)]) hx hb dX9_yearsOn_1 rfl hl (by decide) rfl (fun ls hl => ?_)
  exact w_X9_yearsOn_2 X hk0 lb_N x1 (0 : Int32) σ _ _ _ h hW (lv_sub hl [1, 2, 0] rfl)
abbrev rmX9_allGrace : Room := { frames := 1, cells := 0, slots := 0, locals := 21 }
def f_X9_allGrace_4 (σ : lb_Mem) (k0 : Nat) : Nat → Int32 → Int32 → Option Int32
  | 0, _, _ => none
  | n + 1, x1, x2 => if (σ k0 (1 : Int32).toNatClampNeg) ≤ x2 then some x1 else lb_chk (lb_ix (f_X9_ofP x2 (1 : Int32)) 61) (lb_let ((x1 + (σ k0 (f_X9_ofP x2 (1 : Int32)).toNatClampNeg))) (fun v20 : Int32 => f_X9_allGrace_4 σ k0 n v20 (x2 + 1)))
set_option maxRecDepth 20000 in
set_option maxHeartbeats 4000000 in
theorem w_X9_allGrace_4 {p : Program} {l : Launch} {e : Env} {s : State} {m : MethodId} {args : Array Value} {below : List Frame} {meth : Method} {c : Code} {G : lb_G} {σ : lb_Mem} {k0 : Nat} {qr : Int32} (X : lb_C G p s m args meth c cX9_allGrace 3 RX9 (some .int)) (hk0 : lb_ar k0 = 60 + 1) : ∀ (n : Nat) (x1 : Int32) (x2 : Int32) (H : Heap) (locs : List Loc) (ls : Array Slot), f_X9_allGrace_4 σ k0 n x1 x2 = some qr → lb_W G s σ H locs → lv_has ls 3 [(0, .ref (lb_ad G k0)), (1, .int x1), (2, .int x2)] → W p l e rmX9_allGrace s m args below meth c H locs 0 0 (MQ below (lb_QI G qr σ) args s 0 0 (lb_A G)) (F0 m 4 ls []) := by
  have hx := X.1
  have hb := X.2.1
  intro n
  induction n with
  | zero => intro x1 x2 H locs ls h hW hl; exact absurd h (fun z => by cases z)
  | succ n ih =>
    intro x1 x2 H locs ls h hW hl
    have h : (if (σ k0 (1 : Int32).toNatClampNeg) ≤ x2 then some x1 else lb_chk (lb_ix (f_X9_ofP x2 (1 : Int32)) 61) (lb_let ((x1 + (σ k0 (f_X9_ofP x2 (1 : Int32)).toNatClampNeg))) (fun v20 : Int32 => f_X9_allGrace_4 σ k0 n v20 (x2 + 1)))) = some qr := h
    refine lv_iload_n hx hb dX9_allGrace_4 rfl (lv_at hl 2 rfl) ?_
    refine lv_aload_n hx hb dX9_allGrace_5 rfl (lv_at hl 0 rfl) ?_
    refine lv_iconst (v := 1) hx hb dX9_allGrace_6 rfl ?_
    refine lb_ild X hW hk0 (lb_inC rfl) dX9_allGrace_7 ?_
    refine lv_icmp_ge (tgt := 27) hx hb dX9_allGrace_8 (by decide) (fun c8 => ?_) (fun c8 => ?_)
    · have h := (if_pos c8).symm.trans h
      refine lv_iload_n hx hb dX9_allGrace_27 rfl (lv_at hl 1 rfl) ?_
      obtain rfl := Option.some.inj h
      exact lb_iret X hW dX9_allGrace_28
    · have h := (if_neg c8).symm.trans h
      refine lv_iload_n hx hb dX9_allGrace_11 rfl (lv_at hl 1 rfl) ?_
      refine lv_aload_n hx hb dX9_allGrace_12 rfl (lv_at hl 0 rfl) ?_
      refine lv_iload_n hx hb dX9_allGrace_13 rfl (lv_at hl 2 rfl) ?_
      refine lv_iconst (v := 1) hx hb dX9_allGrace_14 rfl ?_
      refine rc_X9_52 X hW x2 (1 : Int32) ⟨⟨rfl, rfl⟩, Nat.le_of_ble_eq_true rfl, Nat.le_of_ble_eq_true rfl⟩ hl.1 (Nat.le_of_ble_eq_true rfl) dX9_allGrace_15 ⟨Nat.zero_le _, Nat.zero_le _⟩ (fun H locs hW => ?_)
      obtain ⟨i18, h⟩ := lb_chk_in h
      refine lb_ild X hW hk0 i18 dX9_allGrace_18 ?_
      refine lv_iadd hx hb dX9_allGrace_19 ?_
      refine lv_topi (fun v20 e20 => ?_)
      have h := lb_letI e20 h
      refine lv_istore_n (lv' := [(1, .int v20), (0, .ref (lb_ad G k0)), (2, .int x2)]) hx hb dX9_allGrace_20 rfl hl (by decide) rfl (fun ls hl => ?_)
      refine lv_iinc (v := (x2 + 1)) (lv' := [(2, .int (x2 + 1)), (1, .int v20), (0, .ref (lb_ad G k0))]) hx hb dX9_allGrace_21 hl (k := 2) rfl rfl (by decide) rfl (fun ls hl => ?_)
      refine lv_goto (tgt := 4) hx hb dX9_allGrace_24 (by decide) ?_
      exact ih v20 (x2 + 1) _ _ _ h hW (lv_sub hl [2, 1, 0] rfl)
def f_X9_allGrace (σ : lb_Mem) (k0 : Nat) : Option Int32 := f_X9_allGrace_4 σ k0 lb_N (0 : Int32) (0 : Int32)
set_option maxRecDepth 20000 in
set_option maxHeartbeats 4000000 in
theorem m_X9_allGrace (l : Launch) (G : lb_G) (σ : lb_Mem) {k0 : Nat} (hk0 : lb_ar k0 = 60 + 1) (qr : Int32) (h : f_X9_allGrace σ k0 = some qr) : lb_M l yX9_allGrace cX9_allGrace 3 (some .int) rmX9_allGrace [.ref (lb_ad G k0)] G σ (lb_QI G qr σ) := by
  refine lb_start RX9 (by decide +kernel) rfl (Nat.le_of_ble_eq_true rfl) (fun p e s m below meth c X hW ls hl => ?_)
  have hx := X.1
  have hb := X.2.1
  have hl : lv_has ls 3 [(0, .ref (lb_ad G k0))] := hl
  have h : (f_X9_allGrace_4 σ k0 lb_N (0 : Int32) (0 : Int32)) = some qr := h
  skip
  refine lv_iconst (v := 0) hx hb dX9_allGrace_0 rfl ?_
  refine lv_istore_n (lv' := [(1, .int (0 : Int32)), (0, .ref (lb_ad G k0))]) hx hb dX9_allGrace_1 rfl hl (by decide) rfl (fun ls hl => ?_)
  refine lv_iconst (v := 0) hx hb dX9_allGrace_2 rfl ?_
  refine lv_istore_n (lv' := [(2, .int (0 : Int32)), (1, .int (0 : Int32)), (0, .ref (lb_ad G k0))]) hx hb dX9_allGrace_3 rfl hl (by decide) rfl (fun ls hl => ?_)
  exact w_X9_allGrace_4 X hk0 lb_N (0 : Int32) (0 : Int32) _ _ _ h hW (lv_sub hl [2, 1, 0] rfl)
abbrev rmX9_letter : Room := { frames := 1, cells := 0, slots := 0, locals := 21 }
def f_X9_letter_27 (σ : lb_Mem) : Option (Int32 × lb_Mem) := (f_X9_no (-6 : Int32) σ).bind (fun q30 => some (q30.1, q30.2))
set_option maxRecDepth 20000 in
set_option maxHeartbeats 4000000 in
theorem w_X9_letter_27 {p : Program} {l : Launch} {e : Env} {s : State} {m : MethodId} {args : Array Value} {below : List Frame} {meth : Method} {c : Code} {G : lb_G} {qr : (Int32 × lb_Mem)} (X : lb_C G p s m args meth c cX9_letter 2 RX9 (some .int)) : ∀ (σ : lb_Mem) (H : Heap) (locs : List Loc) (ls : Array Slot), f_X9_letter_27 σ = some qr → lb_W G s σ H locs → lv_has ls 2 [(0, .ref (lb_ad G 53))] → W p l e rmX9_letter s m args below meth c H locs 0 0 (MQ below (lb_QI G qr.1 qr.2) args s 0 0 (lb_A G)) (F0 m 27 ls []) := by
  have hx := X.1
  have hb := X.2.1
  intro σ H locs ls h hW hl
  have h : ((f_X9_no (-6 : Int32) σ).bind (fun q30 => some (q30.1, q30.2))) = some qr := h
  refine lv_aload_n hx hb dX9_letter_27 rfl (lv_at hl 0 rfl) ?_
  refine lv_bipush (v := -6) hx hb dX9_letter_28 rfl ?_
  obtain ⟨q30, e30, h⟩ := lb_bind h
  refine rc_X9_35 X hW e30 ⟨⟨rfl, rfl⟩, Nat.le_of_ble_eq_true rfl, Nat.le_of_ble_eq_true rfl⟩ hl.1 (Nat.le_of_ble_eq_true rfl) dX9_letter_30 ⟨Nat.zero_le _, Nat.zero_le _⟩ (fun H locs hW => ?_)
  obtain rfl := Option.some.inj h
  exact lb_iret X hW dX9_letter_33
def f_X9_letter (x1 : Int32) (σ : lb_Mem) : Option (Int32 × lb_Mem) := if 0 ≤ x1 then if (255 : Int32) < x1 then f_X9_letter_27 σ else if (σ 53 8) = (96 : Int32) then f_X9_letter_27 σ else lb_chk (lb_ix (σ 53 8) 96) (lb_let (lb_sto σ 58 (σ 53 8).toNatClampNeg x1) (fun s43 : lb_Mem => lb_let (lb_sto s43 53 8 ((s43 53 8) + (1 : Int32))) (fun s51 : lb_Mem => some ((s51 53 8), s51)))) else (f_X9_no (-4 : Int32) σ).bind (fun q7 => some (q7.1, q7.2))
set_option maxRecDepth 20000 in
set_option maxHeartbeats 4000000 in
theorem m_X9_letter (l : Launch) (G : lb_G) (σ : lb_Mem) (x1 : Int32) (qr : (Int32 × lb_Mem)) (h : f_X9_letter x1 σ = some qr) : lb_M l yX9_letter cX9_letter 2 (some .int) rmX9_letter [.ref (lb_ad G 53), .int x1] G σ (lb_QI G qr.1 qr.2) := by
  refine lb_start RX9 (by decide +kernel) rfl (Nat.le_of_ble_eq_true rfl) (fun p e s m below meth c X hW ls hl => ?_)
  have hx := X.1
  have hb := X.2.1
  have hl : lv_has ls 2 [(0, .ref (lb_ad G 53)), (1, .int x1)] := hl
  have h : (if 0 ≤ x1 then if (255 : Int32) < x1 then f_X9_letter_27 σ else if (σ 53 8) = (96 : Int32) then f_X9_letter_27 σ else lb_chk (lb_ix (σ 53 8) 96) (lb_let (lb_sto σ 58 (σ 53 8).toNatClampNeg x1) (fun s43 : lb_Mem => lb_let (lb_sto s43 53 8 ((s43 53 8) + (1 : Int32))) (fun s51 : lb_Mem => some ((s51 53 8), s51)))) else (f_X9_no (-4 : Int32) σ).bind (fun q7 => some (q7.1, q7.2))) = some qr := h
  skip
  refine lv_iload_n hx hb dX9_letter_0 rfl (lv_at hl 1 rfl) ?_
  refine lv_if_ge (tgt := 11) hx hb dX9_letter_1 (by decide) (fun c1 => ?_) (fun c1 => ?_)
  · have h := (if_pos c1).symm.trans h
    refine lv_iload_n hx hb dX9_letter_11 rfl (lv_at hl 1 rfl) ?_
    refine lv_sipush (v := 255) hx hb dX9_letter_12 rfl ?_
    refine lv_icmp_gt (tgt := 27) hx hb dX9_letter_15 (by decide) (fun c15 => ?_) (fun c15 => ?_)
    · have h := (if_pos c15).symm.trans h
      exact w_X9_letter_27 X σ _ _ _ h hW (lv_sub hl [0] rfl)
    · have h := (if_neg c15).symm.trans h
      refine lv_aload_n hx hb dX9_letter_18 rfl (lv_at hl 0 rfl) ?_
      refine rg_X9_73 X hW dX9_letter_19 ?_
      refine lv_bipush (v := 96) hx hb dX9_letter_22 rfl ?_
      refine lv_icmp_ne (tgt := 34) hx hb dX9_letter_24 (by decide) (fun c24 => ?_) (fun c24 => ?_)
      · have h := (if_neg c24).symm.trans h
        refine lv_aload_n hx hb dX9_letter_34 rfl (lv_at hl 0 rfl) ?_
        refine rg_X9_22 X hW dX9_letter_35 ?_
        refine lv_aload_n hx hb dX9_letter_38 rfl (lv_at hl 0 rfl) ?_
        refine rg_X9_73 X hW dX9_letter_39 ?_
        refine lv_iload_n hx hb dX9_letter_42 rfl (lv_at hl 1 rfl) ?_
        obtain ⟨i43, h⟩ := lb_chk_in h
        refine lb_ist X hW (show lb_ar 58 = 95 + 1 from rfl) i43 dX9_letter_43 (fun H locs hW => ?_)
        obtain ⟨s43, e43⟩ : ∃ z, z = lb_sto σ 58 (σ 53 8).toNatClampNeg x1 := ⟨_, rfl⟩
        rw [← e43] at hW
        have h := lb_letI e43 h
        refine lv_aload_n hx hb dX9_letter_44 rfl (lv_at hl 0 rfl) ?_
        refine lv_dup hx hb dX9_letter_45 rfl ?_
        refine rg_X9_73 X hW dX9_letter_46 ?_
        refine lv_iconst (v := 1) hx hb dX9_letter_49 rfl ?_
        refine lv_iadd hx hb dX9_letter_50 ?_
        refine rp_X9_73 X hW dX9_letter_51 (fun H locs hW => ?_)
        obtain ⟨s51, e51⟩ : ∃ z, z = lb_sto s43 53 8 ((s43 53 8) + (1 : Int32)) := ⟨_, rfl⟩
        rw [← e51] at hW
        have h := lb_letI e51 h
        refine lv_aload_n hx hb dX9_letter_54 rfl (lv_at hl 0 rfl) ?_
        refine rg_X9_73 X hW dX9_letter_55 ?_
        obtain rfl := Option.some.inj h
        exact lb_iret X hW dX9_letter_58
      · have h := (if_pos c24).symm.trans h
        exact w_X9_letter_27 X σ _ _ _ h hW (lv_sub hl [0] rfl)
  · have h := (if_neg c1).symm.trans h
    refine lv_aload_n hx hb dX9_letter_4 rfl (lv_at hl 0 rfl) ?_
    refine lv_bipush (v := -4) hx hb dX9_letter_5 rfl ?_
    obtain ⟨q7, e7, h⟩ := lb_bind h
    refine rc_X9_35 X hW e7 ⟨⟨rfl, rfl⟩, Nat.le_of_ble_eq_true rfl, Nat.le_of_ble_eq_true rfl⟩ hl.1 (Nat.le_of_ble_eq_true rfl) dX9_letter_7 ⟨Nat.zero_le _, Nat.zero_le _⟩ (fun H locs hW => ?_)
    obtain rfl := Option.some.inj h
    exact lb_iret X hW dX9_letter_10
abbrev rmX9_here : Room := { frames := 0, cells := 0, slots := 0, locals := 0 }
def f_X9_here (σ : lb_Mem) : Option Int32 := if (σ 53 8) ≤ (σ 53 10) then some (-1 : Int32) else lb_chk (lb_ix (σ 53 10) 96) (some (σ 58 (σ 53 10).toNatClampNeg))
set_option maxRecDepth 20000 in
set_option maxHeartbeats 4000000 in
theorem m_X9_here (l : Launch) (G : lb_G) (σ : lb_Mem) (qr : Int32) (h : f_X9_here σ = some qr) : lb_M l yX9_here cX9_here 1 (some .int) rmX9_here [.ref (lb_ad G 53)] G σ (lb_QI G qr σ) := by
  refine lb_start RX9 (by decide +kernel) rfl (Nat.le_of_ble_eq_true rfl) (fun p e s m below meth c X hW ls hl => ?_)
  have hx := X.1
  have hb := X.2.1
  have hl : lv_has ls 1 [(0, .ref (lb_ad G 53))] := hl
  have h : (if (σ 53 8) ≤ (σ 53 10) then some (-1 : Int32) else lb_chk (lb_ix (σ 53 10) 96) (some (σ 58 (σ 53 10).toNatClampNeg))) = some qr := h
  skip
  refine lv_aload_n hx hb dX9_here_0 rfl (lv_at hl 0 rfl) ?_
  refine rg_X9_77 X hW dX9_here_1 ?_
  refine lv_aload_n hx hb dX9_here_4 rfl (lv_at hl 0 rfl) ?_
  refine rg_X9_73 X hW dX9_here_5 ?_
  refine lv_icmp_ge (tgt := 23) hx hb dX9_here_8 (by decide) (fun c8 => ?_) (fun c8 => ?_)
  · have h := (if_pos c8).symm.trans h
    refine lv_iconst (v := -1) hx hb dX9_here_23 rfl ?_
    obtain rfl := Option.some.inj h
    exact lb_iret X hW dX9_here_24
  · have h := (if_neg c8).symm.trans h
    refine lv_aload_n hx hb dX9_here_11 rfl (lv_at hl 0 rfl) ?_
    refine rg_X9_22 X hW dX9_here_12 ?_
    refine lv_aload_n hx hb dX9_here_15 rfl (lv_at hl 0 rfl) ?_
    refine rg_X9_77 X hW dX9_here_16 ?_
    obtain ⟨i19, h⟩ := lb_chk_in h
    refine lb_ild X hW (show lb_ar 58 = 95 + 1 from rfl) i19 dX9_here_19 ?_
    refine lv_goto (tgt := 24) hx hb dX9_here_20 (by decide) ?_
    obtain rfl := Option.some.inj h
    exact lb_iret X hW dX9_here_24
theorem rc_X9_80 {p : Program} {l : Launch} {e : Env} {R : Room} {s : State} {m : MethodId} {args : Array Value} {below : List Frame} {meth : Method} {c : Code} {H : Heap} {locs : List Loc} {cells slots : Nat} {Q : State → Prop} {cc : ByteArray} {pc nL : Nat} {ls : Array Slot} {rest : List Value} {G : lb_G} {σ : lb_Mem} {ret : Option FieldType} (X : lb_C G p s m args meth c cc nL RX9 ret) (hW : lb_W G s σ H locs) {qr : Int32} (h : f_X9_here σ = some qr) (hR : lb_room rmX9_here R 1) (hls : ls.size = nL) (hrest : (rest.map fun v => v.category).sum ≤ 8) (d : decode cc pc = .ok (.invokevirtual 80, 3)) (hcap : cells ≤ R.cells ∧ slots ≤ R.slots) (kk : ∀ (H1 : Heap) (locs1 : List Loc), lb_W G s σ H1 locs1 → W p l e R s m args below meth c H1 locs1 cells slots Q (F0 m (pc + 3) ls (.int qr :: rest))) : W p l e R s m args below meth c H locs cells slots Q (F0 m pc ls (.ref (lb_ad G 53) :: rest)) :=
  lb_goI hW (lb_runV (As := []) X hW (m_X9_here l G σ qr h) (n := 0) ⟨qw_822, qw_52, qw_825, by decide +kernel⟩ hR qw_824 qw_19 lb_is53 rfl hls hrest d hcap) kk
abbrev rmX9_readsNumber : Room := { frames := 1, cells := 0, slots := 0, locals := 22 }
def f_X9_readsNumber_9 : Nat → Int32 → Int32 → Int32 → lb_Mem → Option (Int32 × lb_Mem)
  | 0, _, _, _, _ => none
  | n + 1, x1, x2, x3, σ => if x2 ≤ x3 then some ((1 : Int32), σ) else (f_X9_here σ).bind (fun q15 => if (f_X9_isIn q15 (48 : Int32) (57 : Int32)) = 0 then some ((0 : Int32), σ) else lb_chk (lb_ix x1 6) ((f_X9_here σ).bind (fun q45 => lb_chk (lb_ix x1 6) (lb_let (lb_sto σ 61 x1.toNatClampNeg ((((10 : Int32) * (σ 61 x1.toNatClampNeg)) + q45) - (48 : Int32))) (fun s52 : lb_Mem => lb_let (lb_sto s52 53 10 ((s52 53 10) + (1 : Int32))) (fun s60 : lb_Mem => f_X9_readsNumber_9 n x1 x2 (x3 + 1) s60))))))
set_option maxRecDepth 20000 in
set_option maxHeartbeats 4000000 in
theorem w_X9_readsNumber_9 {p : Program} {l : Launch} {e : Env} {s : State} {m : MethodId} {args : Array Value} {below : List Frame} {meth : Method} {c : Code} {G : lb_G} {qr : (Int32 × lb_Mem)} (X : lb_C G p s m args meth c cX9_readsNumber 4 RX9 (some .boolean)) : ∀ (n : Nat) (x1 : Int32) (x2 : Int32) (x3 : Int32) (σ : lb_Mem) (H : Heap) (locs : List Loc) (ls : Array Slot), f_X9_readsNumber_9 n x1 x2 x3 σ = some qr → lb_W G s σ H locs → lv_has ls 4 [(0, .ref (lb_ad G 53)), (1, .int x1), (2, .int x2), (3, .int x3)] → W p l e rmX9_readsNumber s m args below meth c H locs 0 0 (MQ below (lb_QI G qr.1 qr.2) args s 0 0 (lb_A G)) (F0 m 9 ls []) := by
  have hx := X.1
  have hb := X.2.1
  intro n
  induction n with
  | zero => intro x1 x2 x3 σ H locs ls h hW hl; exact absurd h (fun z => by cases z)
  | succ n ih =>
    intro x1 x2 x3 σ H locs ls h hW hl
    have h : (if x2 ≤ x3 then some ((1 : Int32), σ) else (f_X9_here σ).bind (fun q15 => if (f_X9_isIn q15 (48 : Int32) (57 : Int32)) = 0 then some ((0 : Int32), σ) else lb_chk (lb_ix x1 6) ((f_X9_here σ).bind (fun q45 => lb_chk (lb_ix x1 6) (lb_let (lb_sto σ 61 x1.toNatClampNeg ((((10 : Int32) * (σ 61 x1.toNatClampNeg)) + q45) - (48 : Int32))) (fun s52 : lb_Mem => lb_let (lb_sto s52 53 10 ((s52 53 10) + (1 : Int32))) (fun s60 : lb_Mem => f_X9_readsNumber_9 n x1 x2 (x3 + 1) s60))))))) = some qr := h
    refine lv_iload_n hx hb dX9_readsNumber_9 rfl (lv_at hl 3 rfl) ?_
    refine lv_iload_n hx hb dX9_readsNumber_10 rfl (lv_at hl 2 rfl) ?_
    refine lv_icmp_ge (tgt := 69) hx hb dX9_readsNumber_11 (by decide) (fun c11 => ?_) (fun c11 => ?_)
    · have h := (if_pos c11).symm.trans h
      refine lv_iconst (v := 1) hx hb dX9_readsNumber_69 rfl ?_
      obtain rfl := Option.some.inj h
      exact lb_zret X hW (Or.inr rfl) dX9_readsNumber_70
    · have h := (if_neg c11).symm.trans h
      refine lv_aload_n hx hb dX9_readsNumber_14 rfl (lv_at hl 0 rfl) ?_
      obtain ⟨q15, e15, h⟩ := lb_bind h
      refine rc_X9_80 X hW e15 ⟨⟨rfl, rfl⟩, Nat.le_of_ble_eq_true rfl, Nat.le_of_ble_eq_true rfl⟩ hl.1 (Nat.le_of_ble_eq_true rfl) dX9_readsNumber_15 ⟨Nat.zero_le _, Nat.zero_le _⟩ (fun H locs hW => ?_)
      refine lv_bipush (v := 48) hx hb dX9_readsNumber_18 rfl ?_
      refine lv_bipush (v := 57) hx hb dX9_readsNumber_20 rfl ?_
      refine rc_X9_41 X hW q15 (48 : Int32) (57 : Int32) ⟨⟨rfl, rfl⟩, Nat.le_of_ble_eq_true rfl, Nat.le_of_ble_eq_true rfl⟩ hl.1 (Nat.le_of_ble_eq_true rfl) dX9_readsNumber_22 ⟨Nat.zero_le _, Nat.zero_le _⟩ (fun H locs hW => ?_)
      refine lv_if_ne (tgt := 30) hx hb dX9_readsNumber_25 (by decide) (fun c25 => ?_) (fun c25 => ?_)
      · have h := (if_neg c25).symm.trans h
        refine lv_aload_n hx hb dX9_readsNumber_30 rfl (lv_at hl 0 rfl) ?_
        refine rg_X9_31 X hW dX9_readsNumber_31 ?_
        refine lv_iload_n hx hb dX9_readsNumber_34 rfl (lv_at hl 1 rfl) ?_
        refine lv_bipush (v := 10) hx hb dX9_readsNumber_35 rfl ?_
        refine lv_aload_n hx hb dX9_readsNumber_37 rfl (lv_at hl 0 rfl) ?_
        refine rg_X9_31 X hW dX9_readsNumber_38 ?_
        refine lv_iload_n hx hb dX9_readsNumber_41 rfl (lv_at hl 1 rfl) ?_
        obtain ⟨i42, h⟩ := lb_chk_in h
        refine lb_ild X hW (show lb_ar 61 = 5 + 1 from rfl) i42 dX9_readsNumber_42 ?_
        refine lv_imul hx hb dX9_readsNumber_43 ?_
        refine lv_aload_n hx hb dX9_readsNumber_44 rfl (lv_at hl 0 rfl) ?_
        obtain ⟨q45, e45, h⟩ := lb_bind h
        refine rc_X9_80 X hW e45 ⟨⟨rfl, rfl⟩, Nat.le_of_ble_eq_true rfl, Nat.le_of_ble_eq_true rfl⟩ hl.1 (Nat.le_of_ble_eq_true rfl) dX9_readsNumber_45 ⟨Nat.zero_le _, Nat.zero_le _⟩ (fun H locs hW => ?_)
        refine lv_iadd hx hb dX9_readsNumber_48 ?_
        refine lv_bipush (v := 48) hx hb dX9_readsNumber_49 rfl ?_
        refine lv_isub hx hb dX9_readsNumber_51 ?_
        obtain ⟨i52, h⟩ := lb_chk_in h
        refine lb_ist X hW (show lb_ar 61 = 5 + 1 from rfl) i52 dX9_readsNumber_52 (fun H locs hW => ?_)
        obtain ⟨s52, e52⟩ : ∃ z, z = lb_sto σ 61 x1.toNatClampNeg ((((10 : Int32) * (σ 61 x1.toNatClampNeg)) + q45) - (48 : Int32)) := ⟨_, rfl⟩
        rw [← e52] at hW
        have h := lb_letI e52 h
        refine lv_aload_n hx hb dX9_readsNumber_53 rfl (lv_at hl 0 rfl) ?_
        refine lv_dup hx hb dX9_readsNumber_54 rfl ?_
        refine rg_X9_77 X hW dX9_readsNumber_55 ?_
        refine lv_iconst (v := 1) hx hb dX9_readsNumber_58 rfl ?_
        refine lv_iadd hx hb dX9_readsNumber_59 ?_
        refine rp_X9_77 X hW dX9_readsNumber_60 (fun H locs hW => ?_)
        obtain ⟨s60, e60⟩ : ∃ z, z = lb_sto s52 53 10 ((s52 53 10) + (1 : Int32)) := ⟨_, rfl⟩
        rw [← e60] at hW
        have h := lb_letI e60 h
        refine lv_iinc (v := (x3 + 1)) (lv' := [(3, .int (x3 + 1)), (0, .ref (lb_ad G 53)), (1, .int x1), (2, .int x2)]) hx hb dX9_readsNumber_63 hl (k := 3) rfl rfl (by decide) rfl (fun ls hl => ?_)
        refine lv_goto (tgt := 9) hx hb dX9_readsNumber_66 (by decide) ?_
        exact ih x1 x2 (x3 + 1) s60 _ _ _ h hW (lv_sub hl [1, 2, 3, 0] rfl)
      · have h := (if_pos c25).symm.trans h
        refine lv_iconst (v := 0) hx hb dX9_readsNumber_28 rfl ?_
        obtain rfl := Option.some.inj h
        exact lb_zret X hW (Or.inl rfl) dX9_readsNumber_29
def f_X9_readsNumber (x1 : Int32) (x2 : Int32) (σ : lb_Mem) : Option (Int32 × lb_Mem) := lb_chk (lb_ix x1 6) (lb_let (lb_sto σ 61 x1.toNatClampNeg (0 : Int32)) (fun s6 : lb_Mem => f_X9_readsNumber_9 lb_N x1 x2 (0 : Int32) s6))
set_option maxRecDepth 20000 in
set_option maxHeartbeats 4000000 in
theorem m_X9_readsNumber (l : Launch) (G : lb_G) (σ : lb_Mem) (x1 : Int32) (x2 : Int32) (qr : (Int32 × lb_Mem)) (h : f_X9_readsNumber x1 x2 σ = some qr) : lb_M l yX9_readsNumber cX9_readsNumber 4 (some .boolean) rmX9_readsNumber [.ref (lb_ad G 53), .int x1, .int x2] G σ (lb_QI G qr.1 qr.2) := by
  refine lb_start RX9 (by decide +kernel) rfl (Nat.le_of_ble_eq_true rfl) (fun p e s m below meth c X hW ls hl => ?_)
  have hx := X.1
  have hb := X.2.1
  have hl : lv_has ls 4 [(0, .ref (lb_ad G 53)), (1, .int x1), (2, .int x2)] := hl
  have h : (lb_chk (lb_ix x1 6) (lb_let (lb_sto σ 61 x1.toNatClampNeg (0 : Int32)) (fun s6 : lb_Mem => f_X9_readsNumber_9 lb_N x1 x2 (0 : Int32) s6))) = some qr := h
  skip
  refine lv_aload_n hx hb dX9_readsNumber_0 rfl (lv_at hl 0 rfl) ?_
  refine rg_X9_31 X hW dX9_readsNumber_1 ?_
  refine lv_iload_n hx hb dX9_readsNumber_4 rfl (lv_at hl 1 rfl) ?_
  refine lv_iconst (v := 0) hx hb dX9_readsNumber_5 rfl ?_
  obtain ⟨i6, h⟩ := lb_chk_in h
  refine lb_ist X hW (show lb_ar 61 = 5 + 1 from rfl) i6 dX9_readsNumber_6 (fun H locs hW => ?_)
  obtain ⟨s6, e6⟩ : ∃ z, z = lb_sto σ 61 x1.toNatClampNeg (0 : Int32) := ⟨_, rfl⟩
  rw [← e6] at hW
  have h := lb_letI e6 h
  refine lv_iconst (v := 0) hx hb dX9_readsNumber_7 rfl ?_
  refine lv_istore_n (lv' := [(3, .int (0 : Int32)), (0, .ref (lb_ad G 53)), (1, .int x1), (2, .int x2)]) hx hb dX9_readsNumber_8 rfl hl (by decide) rfl (fun ls hl => ?_)
  exact w_X9_readsNumber_9 X lb_N x1 x2 (0 : Int32) s6 _ _ _ h hW (lv_sub hl [1, 2, 3, 0] rfl)
abbrev rmX9_kindBy : Room := { frames := 0, cells := 0, slots := 0, locals := 0 }
def f_X9_kindBy (x0 : Int32) : Int32 := if x0 = 97 then (3 : Int32) else if x0 = 98 then (5 : Int32) else if x0 = 104 then (4 : Int32) else if x0 = 106 then (0 : Int32) else if x0 = 115 then (2 : Int32) else if x0 = 116 then (1 : Int32) else (-9 : Int32)
set_option maxRecDepth 20000 in
set_option maxHeartbeats 4000000 in
theorem m_X9_kindBy (l : Launch) (G : lb_G) (σ : lb_Mem) (x0 : Int32) (qr : Int32) (h : f_X9_kindBy x0 = qr) : lb_M l yX9_kindBy cX9_kindBy 1 (some .int) rmX9_kindBy [.int x0] G σ (lb_QI G qr σ) := by
  refine lb_start RX9 (by decide +kernel) rfl (Nat.le_of_ble_eq_true rfl) (fun p e s m below meth c X hW ls hl => ?_)
  have hx := X.1
  have hb := X.2.1
  have hl : lv_has ls 1 [(0, .int x0)] := hl
  have h : (if x0 = 97 then (3 : Int32) else if x0 = 98 then (5 : Int32) else if x0 = 104 then (4 : Int32) else if x0 = 106 then (0 : Int32) else if x0 = 115 then (2 : Int32) else if x0 = 116 then (1 : Int32) else (-9 : Int32)) = qr := h
  skip
  refine lv_iload_n hx hb dX9_kindBy_0 rfl (lv_at hl 0 rfl) ?_
  by_cases c1_97 : x0 = 97
  · have h := (if_pos c1_97).symm.trans h
    refine lv_tableIn (tgt := 102) hx hb dX9_kindBy_1 (by rw [c1_97]; decide) (by rw [c1_97]; decide) (off := 101) (by rw [c1_97]; rfl) (by decide) ?_
    refine lv_iconst (v := 3) hx hb dX9_kindBy_102 rfl ?_
    subst h
    exact lb_iret X hW dX9_kindBy_103
  have h := (if_neg c1_97).symm.trans h
  by_cases c1_98 : x0 = 98
  · have h := (if_pos c1_98).symm.trans h
    refine lv_tableIn (tgt := 106) hx hb dX9_kindBy_1 (by rw [c1_98]; decide) (by rw [c1_98]; decide) (off := 105) (by rw [c1_98]; rfl) (by decide) ?_
    refine lv_iconst (v := 5) hx hb dX9_kindBy_106 rfl ?_
    subst h
    exact lb_iret X hW dX9_kindBy_107
  have h := (if_neg c1_98).symm.trans h
  by_cases c1_104 : x0 = 104
  · have h := (if_pos c1_104).symm.trans h
    refine lv_tableIn (tgt := 104) hx hb dX9_kindBy_1 (by rw [c1_104]; decide) (by rw [c1_104]; decide) (off := 103) (by rw [c1_104]; rfl) (by decide) ?_
    refine lv_iconst (v := 4) hx hb dX9_kindBy_104 rfl ?_
    subst h
    exact lb_iret X hW dX9_kindBy_105
  have h := (if_neg c1_104).symm.trans h
  by_cases c1_106 : x0 = 106
  · have h := (if_pos c1_106).symm.trans h
    refine lv_tableIn (tgt := 96) hx hb dX9_kindBy_1 (by rw [c1_106]; decide) (by rw [c1_106]; decide) (off := 95) (by rw [c1_106]; rfl) (by decide) ?_
    refine lv_iconst (v := 0) hx hb dX9_kindBy_96 rfl ?_
    subst h
    exact lb_iret X hW dX9_kindBy_97
  have h := (if_neg c1_106).symm.trans h
  by_cases c1_115 : x0 = 115
  · have h := (if_pos c1_115).symm.trans h
    refine lv_tableIn (tgt := 100) hx hb dX9_kindBy_1 (by rw [c1_115]; decide) (by rw [c1_115]; decide) (off := 99) (by rw [c1_115]; rfl) (by decide) ?_
    refine lv_iconst (v := 2) hx hb dX9_kindBy_100 rfl ?_
    subst h
    exact lb_iret X hW dX9_kindBy_101
  have h := (if_neg c1_115).symm.trans h
  by_cases c1_116 : x0 = 116
  · have h := (if_pos c1_116).symm.trans h
    refine lv_tableIn (tgt := 98) hx hb dX9_kindBy_1 (by rw [c1_116]; decide) (by rw [c1_116]; decide) (off := 97) (by rw [c1_116]; rfl) (by decide) ?_
    refine lv_iconst (v := 1) hx hb dX9_kindBy_98 rfl ?_
    subst h
    exact lb_iret X hW dX9_kindBy_99
  have h := (if_neg c1_116).symm.trans h
  refine lb_tswD (tgt := 108) (lb_kn_cons c1_97 (lb_kn_cons c1_98 (lb_kn_cons c1_104 (lb_kn_cons c1_106 (lb_kn_cons c1_115 (lb_kn_cons c1_116 lb_kn_nil)))))) hx hb dX9_kindBy_1 (by decide) (by decide) (by decide) (by decide) (by decide) ?_
  refine lv_bipush (v := -9) hx hb dX9_kindBy_108 rfl ?_
  subst h
  exact lb_iret X hW dX9_kindBy_110
