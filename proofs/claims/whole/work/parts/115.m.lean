abbrev rmX9_warn : Room := { frames := 6, cells := 0, slots := 0, locals := 132 }
def f_X9_warn_54 : Nat → Int32 → Int32 → Int32 → Int32 → Int32 → lb_Mem → Option (Int32 × lb_Mem)
  | 0, _, _, _, _, _, _ => none
  | n + 1, x1, x2, x4, x5, x6, σ => if (σ 54 (0 : Int32).toNatClampNeg) ≤ x6 then some (x5, σ) else lb_chk (lb_ix (f_X9_ofT x6 (5 : Int32)) 61) (if (σ 54 (f_X9_ofT x6 (5 : Int32)).toNatClampNeg) = x1 then (f_X9_copies 54 55 σ).bind (fun s91 => lb_chk (lb_ix (f_X9_ofT x6 (4 : Int32)) 61) (lb_let (lb_sto s91 55 (f_X9_ofT x6 (4 : Int32)).toNatClampNeg (0 : Int32)) (fun s105 : lb_Mem => (f_X9_yearsOn 55 x2 s105).bind (fun s111 => lb_chk (lb_ix (f_X9_ofP x1 (1 : Int32)) 61) (if x4 < (s111 55 (f_X9_ofP x1 (1 : Int32)).toNatClampNeg) then lb_chk (lb_ix (f_X9_ofP x1 (1 : Int32)) 61) (lb_let ((s111 55 (f_X9_ofP x1 (1 : Int32)).toNatClampNeg)) (fun v146 : Int32 => f_X9_warn_54 n x1 x2 v146 x6 (x6 + 1) s111)) else f_X9_warn_54 n x1 x2 x4 x5 (x6 + 1) s111))))) else f_X9_warn_54 n x1 x2 x4 x5 (x6 + 1) σ)
set_option maxRecDepth 20000 in
set_option maxHeartbeats 4000000 in
theorem w_X9_warn_54 {p : Program} {l : Launch} {e : Env} {s : State} {m : MethodId} {args : Array Value} {below : List Frame} {meth : Method} {c : Code} {G : lb_G} {qr : (Int32 × lb_Mem)} (X : lb_C G p s m args meth c cX9_warn 7 RX9 (some .int)) : ∀ (n : Nat) (x1 : Int32) (x2 : Int32) (x4 : Int32) (x5 : Int32) (x6 : Int32) (σ : lb_Mem) (H : Heap) (locs : List Loc) (ls : Array Slot), f_X9_warn_54 n x1 x2 x4 x5 x6 σ = some qr → lb_W G s σ H locs → lv_has ls 7 [(0, .ref (lb_ad G 53)), (1, .int x1), (2, .int x2), (4, .int x4), (5, .int x5), (6, .int x6)] → W p l e rmX9_warn s m args below meth c H locs 0 0 (MQ below (lb_QI G qr.1 qr.2) args s 0 0 (lb_A G)) (F0 m 54 ls []) := by
  have hx := X.1
  have hb := X.2.1
  intro n
  induction n with
  | zero => intro x1 x2 x4 x5 x6 σ H locs ls h hW hl; exact absurd h (fun z => by cases z)
  | succ n ih =>
    intro x1 x2 x4 x5 x6 σ H locs ls h hW hl
    have h : (if (σ 54 (0 : Int32).toNatClampNeg) ≤ x6 then some (x5, σ) else lb_chk (lb_ix (f_X9_ofT x6 (5 : Int32)) 61) (if (σ 54 (f_X9_ofT x6 (5 : Int32)).toNatClampNeg) = x1 then (f_X9_copies 54 55 σ).bind (fun s91 => lb_chk (lb_ix (f_X9_ofT x6 (4 : Int32)) 61) (lb_let (lb_sto s91 55 (f_X9_ofT x6 (4 : Int32)).toNatClampNeg (0 : Int32)) (fun s105 : lb_Mem => (f_X9_yearsOn 55 x2 s105).bind (fun s111 => lb_chk (lb_ix (f_X9_ofP x1 (1 : Int32)) 61) (if x4 < (s111 55 (f_X9_ofP x1 (1 : Int32)).toNatClampNeg) then lb_chk (lb_ix (f_X9_ofP x1 (1 : Int32)) 61) (lb_let ((s111 55 (f_X9_ofP x1 (1 : Int32)).toNatClampNeg)) (fun v146 : Int32 => f_X9_warn_54 n x1 x2 v146 x6 (x6 + 1) s111)) else f_X9_warn_54 n x1 x2 x4 x5 (x6 + 1) s111))))) else f_X9_warn_54 n x1 x2 x4 x5 (x6 + 1) σ)) = some qr := h
    refine lv_iload hx hb dX9_warn_54 (lv_at hl 5 rfl) ?_
    refine lv_aload_n hx hb dX9_warn_56 rfl (lv_at hl 0 rfl) ?_
    refine rg_X9_9 X hW dX9_warn_57 ?_
    refine lv_iconst (v := 0) hx hb dX9_warn_60 rfl ?_
    refine lb_ild X hW (show lb_ar 54 = 60 + 1 from rfl) (lb_inC rfl) dX9_warn_61 ?_
    refine lv_icmp_ge (tgt := 154) hx hb dX9_warn_62 (by decide) (fun c62 => ?_) (fun c62 => ?_)
    · have h := (if_pos c62).symm.trans h
      refine lv_iload hx hb dX9_warn_154 (lv_at hl 4 rfl) ?_
      obtain rfl := Option.some.inj h
      exact lb_iret X hW dX9_warn_156
    · have h := (if_neg c62).symm.trans h
      refine lv_aload_n hx hb dX9_warn_65 rfl (lv_at hl 0 rfl) ?_
      refine rg_X9_9 X hW dX9_warn_66 ?_
      refine lv_iload hx hb dX9_warn_69 (lv_at hl 5 rfl) ?_
      refine lv_iconst (v := 5) hx hb dX9_warn_71 rfl ?_
      refine rc_X9_45 X hW x6 (5 : Int32) ⟨⟨rfl, rfl⟩, Nat.le_of_ble_eq_true rfl, Nat.le_of_ble_eq_true rfl⟩ hl.1 (Nat.le_of_ble_eq_true rfl) dX9_warn_72 ⟨Nat.zero_le _, Nat.zero_le _⟩ (fun H locs hW => ?_)
      obtain ⟨i75, h⟩ := lb_chk_in h
      refine lb_ild X hW (show lb_ar 54 = 60 + 1 from rfl) i75 dX9_warn_75 ?_
      refine lv_iload_n hx hb dX9_warn_76 rfl (lv_at hl 1 rfl) ?_
      refine lv_icmp_eq (tgt := 83) hx hb dX9_warn_77 (by decide) (fun c77 => ?_) (fun c77 => ?_)
      · have h := (if_pos c77).symm.trans h
        refine lv_aload_n hx hb dX9_warn_83 rfl (lv_at hl 0 rfl) ?_
        refine rg_X9_9 X hW dX9_warn_84 ?_
        refine lv_aload_n hx hb dX9_warn_87 rfl (lv_at hl 0 rfl) ?_
        refine rg_X9_13 X hW dX9_warn_88 ?_
        obtain ⟨s91, e91, h⟩ := lb_bind h
        refine rc_X9_112 X hW (show lb_ar 54 = 60 + 1 from rfl) (show lb_ar 55 = 60 + 1 from rfl) e91 ⟨⟨rfl, rfl⟩, Nat.le_of_ble_eq_true rfl, Nat.le_of_ble_eq_true rfl⟩ hl.1 (Nat.le_of_ble_eq_true rfl) dX9_warn_91 ⟨Nat.zero_le _, Nat.zero_le _⟩ (fun H locs hW => ?_)
        refine lv_aload_n hx hb dX9_warn_94 rfl (lv_at hl 0 rfl) ?_
        refine rg_X9_13 X hW dX9_warn_95 ?_
        refine lv_iload hx hb dX9_warn_98 (lv_at hl 5 rfl) ?_
        refine lv_iconst (v := 4) hx hb dX9_warn_100 rfl ?_
        refine rc_X9_45 X hW x6 (4 : Int32) ⟨⟨rfl, rfl⟩, Nat.le_of_ble_eq_true rfl, Nat.le_of_ble_eq_true rfl⟩ hl.1 (Nat.le_of_ble_eq_true rfl) dX9_warn_101 ⟨Nat.zero_le _, Nat.zero_le _⟩ (fun H locs hW => ?_)
        refine lv_iconst (v := 0) hx hb dX9_warn_104 rfl ?_
        obtain ⟨i105, h⟩ := lb_chk_in h
        refine lb_ist X hW (show lb_ar 55 = 60 + 1 from rfl) i105 dX9_warn_105 (fun H locs hW => ?_)
        obtain ⟨s105, e105⟩ : ∃ z, z = lb_sto s91 55 (f_X9_ofT x6 (4 : Int32)).toNatClampNeg (0 : Int32) := ⟨_, rfl⟩
        rw [← e105] at hW
        have h := lb_letI e105 h
        refine lv_aload_n hx hb dX9_warn_106 rfl (lv_at hl 0 rfl) ?_
        refine rg_X9_13 X hW dX9_warn_107 ?_
        refine lv_iload_n hx hb dX9_warn_110 rfl (lv_at hl 2 rfl) ?_
        obtain ⟨s111, e111, h⟩ := lb_bind h
        refine rc_X9_105 X hW (show lb_ar 55 = 60 + 1 from rfl) e111 ⟨⟨rfl, rfl⟩, Nat.le_of_ble_eq_true rfl, Nat.le_of_ble_eq_true rfl⟩ hl.1 (Nat.le_of_ble_eq_true rfl) dX9_warn_111 ⟨Nat.zero_le _, Nat.zero_le _⟩ (fun H locs hW => ?_)
        refine lv_aload_n hx hb dX9_warn_114 rfl (lv_at hl 0 rfl) ?_
        refine rg_X9_13 X hW dX9_warn_115 ?_
        refine lv_iload_n hx hb dX9_warn_118 rfl (lv_at hl 1 rfl) ?_
        refine lv_iconst (v := 1) hx hb dX9_warn_119 rfl ?_
        refine rc_X9_52 X hW x1 (1 : Int32) ⟨⟨rfl, rfl⟩, Nat.le_of_ble_eq_true rfl, Nat.le_of_ble_eq_true rfl⟩ hl.1 (Nat.le_of_ble_eq_true rfl) dX9_warn_120 ⟨Nat.zero_le _, Nat.zero_le _⟩ (fun H locs hW => ?_)
        obtain ⟨i123, h⟩ := lb_chk_in h
        refine lb_ild X hW (show lb_ar 55 = 60 + 1 from rfl) i123 dX9_warn_123 ?_
        refine lv_iload hx hb dX9_warn_124 (lv_at hl 3 rfl) ?_
        refine lv_icmp_gt (tgt := 132) hx hb dX9_warn_126 (by decide) (fun c126 => ?_) (fun c126 => ?_)
        · have h := (if_pos c126).symm.trans h
          refine lv_iload hx hb dX9_warn_132 (lv_at hl 5 rfl) ?_
          refine lv_istore (lv' := [(5, .int x6), (0, .ref (lb_ad G 53)), (1, .int x1), (2, .int x2), (4, .int x4), (6, .int x6)]) hx hb dX9_warn_134 hl (by decide) rfl (fun ls hl => ?_)
          refine lv_aload_n hx hb dX9_warn_136 rfl (lv_at hl 1 rfl) ?_
          refine rg_X9_13 X hW dX9_warn_137 ?_
          refine lv_iload_n hx hb dX9_warn_140 rfl (lv_at hl 2 rfl) ?_
          refine lv_iconst (v := 1) hx hb dX9_warn_141 rfl ?_
          refine rc_X9_52 X hW x1 (1 : Int32) ⟨⟨rfl, rfl⟩, Nat.le_of_ble_eq_true rfl, Nat.le_of_ble_eq_true rfl⟩ hl.1 (Nat.le_of_ble_eq_true rfl) dX9_warn_142 ⟨Nat.zero_le _, Nat.zero_le _⟩ (fun H locs hW => ?_)
          obtain ⟨i145, h⟩ := lb_chk_in h
          refine lb_ild X hW (show lb_ar 55 = 60 + 1 from rfl) i145 dX9_warn_145 ?_
          refine lv_topi (fun v146 e146 => ?_)
          have h := lb_letI e146 h
          refine lv_istore (lv' := [(4, .int v146), (5, .int x6), (0, .ref (lb_ad G 53)), (1, .int x1), (2, .int x2), (6, .int x6)]) hx hb dX9_warn_146 hl (by decide) rfl (fun ls hl => ?_)
          refine lv_iinc (v := (x6 + 1)) (lv' := [(6, .int (x6 + 1)), (4, .int v146), (5, .int x6), (0, .ref (lb_ad G 53)), (1, .int x1), (2, .int x2)]) hx hb dX9_warn_148 hl (k := 5) rfl rfl (by decide) rfl (fun ls hl => ?_)
          refine lv_goto (tgt := 54) hx hb dX9_warn_151 (by decide) ?_
          exact ih x1 x2 v146 x6 (x6 + 1) s111 _ _ _ h hW (lv_sub hl [3, 4, 5, 1, 2, 0] rfl)
        · have h := (if_neg c126).symm.trans h
          refine lv_goto (tgt := 148) hx hb dX9_warn_129 (by decide) ?_
          refine lv_iinc (v := (x6 + 1)) (lv' := [(6, .int (x6 + 1)), (0, .ref (lb_ad G 53)), (1, .int x1), (2, .int x2), (4, .int x4), (5, .int x5)]) hx hb dX9_warn_148 hl (k := 5) rfl rfl (by decide) rfl (fun ls hl => ?_)
          refine lv_goto (tgt := 54) hx hb dX9_warn_151 (by decide) ?_
          exact ih x1 x2 x4 x5 (x6 + 1) s111 _ _ _ h hW (lv_sub hl [1, 2, 3, 4, 5, 0] rfl)
      · have h := (if_neg c77).symm.trans h
        refine lv_goto (tgt := 148) hx hb dX9_warn_80 (by decide) ?_
        refine lv_iinc (v := (x6 + 1)) (lv' := [(6, .int (x6 + 1)), (0, .ref (lb_ad G 53)), (1, .int x1), (2, .int x2), (4, .int x4), (5, .int x5)]) hx hb dX9_warn_148 hl (k := 5) rfl rfl (by decide) rfl (fun ls hl => ?_)
        refine lv_goto (tgt := 54) hx hb dX9_warn_151 (by decide) ?_
        exact ih x1 x2 x4 x5 (x6 + 1) σ _ _ _ h hW (lv_sub hl [1, 2, 3, 4, 5, 0] rfl)
def f_X9_warn_19 (x1 : Int32) (x2 : Int32) (σ : lb_Mem) (y0 : Int32) : Option (Int32 × lb_Mem) := if y0 = 0 then (f_X9_takes x2 σ).bind (fun s32 => lb_chk (lb_ix (f_X9_ofP x1 (1 : Int32)) 61) (lb_let ((s32 55 (f_X9_ofP x1 (1 : Int32)).toNatClampNeg)) (fun v45 : Int32 => f_X9_warn_54 lb_N x1 x2 v45 (-9 : Int32) (0 : Int32) s32))) else (f_X9_no y0 σ).bind (fun q26 => some (q26.1, q26.2))
set_option maxRecDepth 20000 in
set_option maxHeartbeats 4000000 in
theorem w_X9_warn_19 {p : Program} {l : Launch} {e : Env} {s : State} {m : MethodId} {args : Array Value} {below : List Frame} {meth : Method} {c : Code} {G : lb_G} {qr : (Int32 × lb_Mem)} (X : lb_C G p s m args meth c cX9_warn 7 RX9 (some .int)) : ∀ (x1 : Int32) (x2 : Int32) (σ : lb_Mem) (y0 : Int32) (H : Heap) (locs : List Loc) (ls : Array Slot), f_X9_warn_19 x1 x2 σ y0 = some qr → lb_W G s σ H locs → lv_has ls 7 [(0, .ref (lb_ad G 53)), (1, .int x1), (2, .int x2)] → W p l e rmX9_warn s m args below meth c H locs 0 0 (MQ below (lb_QI G qr.1 qr.2) args s 0 0 (lb_A G)) (F0 m 19 ls [.int y0]) := by
  have hx := X.1
  have hb := X.2.1
  intro x1 x2 σ y0 H locs ls h hW hl
  have h : (if y0 = 0 then (f_X9_takes x2 σ).bind (fun s32 => lb_chk (lb_ix (f_X9_ofP x1 (1 : Int32)) 61) (lb_let ((s32 55 (f_X9_ofP x1 (1 : Int32)).toNatClampNeg)) (fun v45 : Int32 => f_X9_warn_54 lb_N x1 x2 v45 (-9 : Int32) (0 : Int32) s32))) else (f_X9_no y0 σ).bind (fun q26 => some (q26.1, q26.2))) = some qr := h
  refine lv_istore_n (lv' := [(3, .int y0), (0, .ref (lb_ad G 53)), (1, .int x1), (2, .int x2)]) hx hb dX9_warn_19 rfl hl (by decide) rfl (fun ls hl => ?_)
  refine lv_iload_n hx hb dX9_warn_20 rfl (lv_at hl 0 rfl) ?_
  refine lv_if_eq (tgt := 30) hx hb dX9_warn_21 (by decide) (fun c21 => ?_) (fun c21 => ?_)
  · have h := (if_pos c21).symm.trans h
    refine lv_aload_n hx hb dX9_warn_30 rfl (lv_at hl 1 rfl) ?_
    refine lv_iload_n hx hb dX9_warn_31 rfl (lv_at hl 3 rfl) ?_
    obtain ⟨s32, e32, h⟩ := lb_bind h
    refine rc_X9_133 X hW e32 ⟨⟨rfl, rfl⟩, Nat.le_of_ble_eq_true rfl, Nat.le_of_ble_eq_true rfl⟩ hl.1 (Nat.le_of_ble_eq_true rfl) dX9_warn_32 ⟨Nat.zero_le _, Nat.zero_le _⟩ (fun H locs hW => ?_)
    refine lv_aload_n hx hb dX9_warn_35 rfl (lv_at hl 1 rfl) ?_
    refine rg_X9_13 X hW dX9_warn_36 ?_
    refine lv_iload_n hx hb dX9_warn_39 rfl (lv_at hl 2 rfl) ?_
    refine lv_iconst (v := 1) hx hb dX9_warn_40 rfl ?_
    refine rc_X9_52 X hW x1 (1 : Int32) ⟨⟨rfl, rfl⟩, Nat.le_of_ble_eq_true rfl, Nat.le_of_ble_eq_true rfl⟩ hl.1 (Nat.le_of_ble_eq_true rfl) dX9_warn_41 ⟨Nat.zero_le _, Nat.zero_le _⟩ (fun H locs hW => ?_)
    obtain ⟨i44, h⟩ := lb_chk_in h
    refine lb_ild X hW (show lb_ar 55 = 60 + 1 from rfl) i44 dX9_warn_44 ?_
    refine lv_topi (fun v45 e45 => ?_)
    have h := lb_letI e45 h
    refine lv_istore (lv' := [(4, .int v45), (3, .int y0), (0, .ref (lb_ad G 53)), (1, .int x1), (2, .int x2)]) hx hb dX9_warn_45 hl (by decide) rfl (fun ls hl => ?_)
    refine lv_bipush (v := -9) hx hb dX9_warn_47 rfl ?_
    refine lv_istore (lv' := [(5, .int (-9 : Int32)), (4, .int v45), (3, .int y0), (0, .ref (lb_ad G 53)), (1, .int x1), (2, .int x2)]) hx hb dX9_warn_49 hl (by decide) rfl (fun ls hl => ?_)
    refine lv_iconst (v := 0) hx hb dX9_warn_51 rfl ?_
    refine lv_istore (lv' := [(6, .int (0 : Int32)), (5, .int (-9 : Int32)), (4, .int v45), (3, .int y0), (0, .ref (lb_ad G 53)), (1, .int x1), (2, .int x2)]) hx hb dX9_warn_52 hl (by decide) rfl (fun ls hl => ?_)
    exact w_X9_warn_54 X lb_N x1 x2 v45 (-9 : Int32) (0 : Int32) s32 _ _ _ h hW (lv_sub hl [4, 5, 6, 2, 1, 0] rfl)
  · have h := (if_neg c21).symm.trans h
    refine lv_aload_n hx hb dX9_warn_24 rfl (lv_at hl 1 rfl) ?_
    refine lv_iload_n hx hb dX9_warn_25 rfl (lv_at hl 0 rfl) ?_
    obtain ⟨q26, e26, h⟩ := lb_bind h
    refine rc_X9_35 X hW e26 ⟨⟨rfl, rfl⟩, Nat.le_of_ble_eq_true rfl, Nat.le_of_ble_eq_true rfl⟩ hl.1 (Nat.le_of_ble_eq_true rfl) dX9_warn_26 ⟨Nat.zero_le _, Nat.zero_le _⟩ (fun H locs hW => ?_)
    obtain rfl := Option.some.inj h
    exact lb_iret X hW dX9_warn_29
def f_X9_warn (x1 : Int32) (x2 : Int32) (σ : lb_Mem) : Option (Int32 × lb_Mem) := if (f_X9_isPerson σ x1) = 0 then f_X9_warn_19 x1 x2 σ (-1 : Int32) else f_X9_warn_19 x1 x2 σ (f_X9_wrongBy x2 (0 : Int32) (30 : Int32))
set_option maxRecDepth 20000 in
set_option maxHeartbeats 4000000 in
theorem m_X9_warn (l : Launch) (G : lb_G) (σ : lb_Mem) (x1 : Int32) (x2 : Int32) (qr : (Int32 × lb_Mem)) (h : f_X9_warn x1 x2 σ = some qr) : lb_M l yX9_warn cX9_warn 7 (some .int) rmX9_warn [.ref (lb_ad G 53), .int x1, .int x2] G σ (lb_QI G qr.1 qr.2) := by
  refine lb_start RX9 (by decide +kernel) rfl (Nat.le_of_ble_eq_true rfl) (fun p e s m below meth c X hW ls hl => ?_)
  have hx := X.1
  have hb := X.2.1
  have hl : lv_has ls 7 [(0, .ref (lb_ad G 53)), (1, .int x1), (2, .int x2)] := hl
  have h : (if (f_X9_isPerson σ x1) = 0 then f_X9_warn_19 x1 x2 σ (-1 : Int32) else f_X9_warn_19 x1 x2 σ (f_X9_wrongBy x2 (0 : Int32) (30 : Int32))) = some qr := h
  skip
  refine lv_aload_n hx hb dX9_warn_0 rfl (lv_at hl 0 rfl) ?_
  refine lv_iload_n hx hb dX9_warn_1 rfl (lv_at hl 1 rfl) ?_
  refine rc_X9_95 X hW x1 ⟨⟨rfl, rfl⟩, Nat.le_of_ble_eq_true rfl, Nat.le_of_ble_eq_true rfl⟩ hl.1 (Nat.le_of_ble_eq_true rfl) dX9_warn_2 ⟨Nat.zero_le _, Nat.zero_le _⟩ (fun H locs hW => ?_)
  refine lv_if_eq (tgt := 18) hx hb dX9_warn_5 (by decide) (fun c5 => ?_) (fun c5 => ?_)
  · have h := (if_pos c5).symm.trans h
    refine lv_iconst (v := -1) hx hb dX9_warn_18 rfl ?_
    exact w_X9_warn_19 X x1 x2 σ (-1 : Int32) _ _ _ h hW (lv_sub hl [0, 1, 2] rfl)
  · have h := (if_neg c5).symm.trans h
    refine lv_iload_n hx hb dX9_warn_8 rfl (lv_at hl 2 rfl) ?_
    refine lv_iconst (v := 0) hx hb dX9_warn_9 rfl ?_
    refine lv_bipush (v := 30) hx hb dX9_warn_10 rfl ?_
    refine rc_X9_125 X hW x2 (0 : Int32) (30 : Int32) ⟨⟨rfl, rfl⟩, Nat.le_of_ble_eq_true rfl, Nat.le_of_ble_eq_true rfl⟩ hl.1 (Nat.le_of_ble_eq_true rfl) dX9_warn_12 ⟨Nat.zero_le _, Nat.zero_le _⟩ (fun H locs hW => ?_)
    refine lv_goto (tgt := 19) hx hb dX9_warn_15 (by decide) ?_
    exact w_X9_warn_19 X x1 x2 σ (f_X9_wrongBy x2 (0 : Int32) (30 : Int32)) _ _ _ h hW (lv_sub hl [0, 1, 2] rfl)
abbrev rmX9_heir : Room := { frames := 6, cells := 0, slots := 0, locals := 134 }
def f_X9_heir_40 : Nat → Int32 → Int32 → Int32 → Int32 → Int32 → lb_Mem → Option (Int32 × lb_Mem)
  | 0, _, _, _, _, _, _ => none
  | n + 1, x1, x2, x4, x5, x6, σ => if (σ 54 (1 : Int32).toNatClampNeg) ≤ x6 then some (x4, σ) else (f_X9_graceGiven x1 x6 x2 σ).bind (fun q56 => if x5 < q56.1 then f_X9_heir_40 n x1 x2 x6 q56.1 (x6 + 1) q56.2 else f_X9_heir_40 n x1 x2 x4 x5 (x6 + 1) q56.2)
set_option maxRecDepth 20000 in
set_option maxHeartbeats 4000000 in
theorem w_X9_heir_40 {p : Program} {l : Launch} {e : Env} {s : State} {m : MethodId} {args : Array Value} {below : List Frame} {meth : Method} {c : Code} {G : lb_G} {qr : (Int32 × lb_Mem)} (X : lb_C G p s m args meth c cX9_heir 8 RX9 (some .int)) : ∀ (n : Nat) (x1 : Int32) (x2 : Int32) (x4 : Int32) (x5 : Int32) (x6 : Int32) (σ : lb_Mem) (H : Heap) (locs : List Loc) (ls : Array Slot), f_X9_heir_40 n x1 x2 x4 x5 x6 σ = some qr → lb_W G s σ H locs → lv_has ls 8 [(0, .ref (lb_ad G 53)), (1, .int x1), (2, .int x2), (4, .int x4), (5, .int x5), (6, .int x6)] → W p l e rmX9_heir s m args below meth c H locs 0 0 (MQ below (lb_QI G qr.1 qr.2) args s 0 0 (lb_A G)) (F0 m 40 ls []) := by
  have hx := X.1
  have hb := X.2.1
  intro n
  induction n with
  | zero => intro x1 x2 x4 x5 x6 σ H locs ls h hW hl; exact absurd h (fun z => by cases z)
  | succ n ih =>
    intro x1 x2 x4 x5 x6 σ H locs ls h hW hl
    have h : (if (σ 54 (1 : Int32).toNatClampNeg) ≤ x6 then some (x4, σ) else (f_X9_graceGiven x1 x6 x2 σ).bind (fun q56 => if x5 < q56.1 then f_X9_heir_40 n x1 x2 x6 q56.1 (x6 + 1) q56.2 else f_X9_heir_40 n x1 x2 x4 x5 (x6 + 1) q56.2)) = some qr := h
    refine lv_iload hx hb dX9_heir_40 (lv_at hl 5 rfl) ?_
    refine lv_aload_n hx hb dX9_heir_42 rfl (lv_at hl 0 rfl) ?_
    refine rg_X9_9 X hW dX9_heir_43 ?_
    refine lv_iconst (v := 1) hx hb dX9_heir_46 rfl ?_
    refine lb_ild X hW (show lb_ar 54 = 60 + 1 from rfl) (lb_inC rfl) dX9_heir_47 ?_
    refine lv_icmp_ge (tgt := 85) hx hb dX9_heir_48 (by decide) (fun c48 => ?_) (fun c48 => ?_)
    · have h := (if_pos c48).symm.trans h
      refine lv_iload hx hb dX9_heir_85 (lv_at hl 3 rfl) ?_
      obtain rfl := Option.some.inj h
      exact lb_iret X hW dX9_heir_87
    · have h := (if_neg c48).symm.trans h
      refine lv_aload_n hx hb dX9_heir_51 rfl (lv_at hl 0 rfl) ?_
      refine lv_iload_n hx hb dX9_heir_52 rfl (lv_at hl 1 rfl) ?_
      refine lv_iload hx hb dX9_heir_53 (lv_at hl 5 rfl) ?_
      refine lv_iload_n hx hb dX9_heir_55 rfl (lv_at hl 2 rfl) ?_
      obtain ⟨q56, e56, h⟩ := lb_bind h
      refine rc_X9_152 X hW e56 ⟨⟨rfl, rfl⟩, Nat.le_of_ble_eq_true rfl, Nat.le_of_ble_eq_true rfl⟩ hl.1 (Nat.le_of_ble_eq_true rfl) dX9_heir_56 ⟨Nat.zero_le _, Nat.zero_le _⟩ (fun H locs hW => ?_)
      refine lv_istore (lv' := [(7, .int q56.1), (0, .ref (lb_ad G 53)), (1, .int x1), (2, .int x2), (4, .int x4), (5, .int x5), (6, .int x6)]) hx hb dX9_heir_59 hl (by decide) rfl (fun ls hl => ?_)
      refine lv_iload hx hb dX9_heir_61 (lv_at hl 0 rfl) ?_
      refine lv_iload hx hb dX9_heir_63 (lv_at hl 5 rfl) ?_
      refine lv_icmp_gt (tgt := 71) hx hb dX9_heir_65 (by decide) (fun c65 => ?_) (fun c65 => ?_)
      · have h := (if_pos c65).symm.trans h
        refine lv_iload hx hb dX9_heir_71 (lv_at hl 6 rfl) ?_
        refine lv_istore (lv' := [(4, .int x6), (7, .int q56.1), (0, .ref (lb_ad G 53)), (1, .int x1), (2, .int x2), (5, .int x5), (6, .int x6)]) hx hb dX9_heir_73 hl (by decide) rfl (fun ls hl => ?_)
        refine lv_iload hx hb dX9_heir_75 (lv_at hl 1 rfl) ?_
        refine lv_istore (lv' := [(5, .int q56.1), (4, .int x6), (7, .int q56.1), (0, .ref (lb_ad G 53)), (1, .int x1), (2, .int x2), (6, .int x6)]) hx hb dX9_heir_77 hl (by decide) rfl (fun ls hl => ?_)
        refine lv_iinc (v := (x6 + 1)) (lv' := [(6, .int (x6 + 1)), (5, .int q56.1), (4, .int x6), (7, .int q56.1), (0, .ref (lb_ad G 53)), (1, .int x1), (2, .int x2)]) hx hb dX9_heir_79 hl (k := 6) rfl rfl (by decide) rfl (fun ls hl => ?_)
        refine lv_goto (tgt := 40) hx hb dX9_heir_82 (by decide) ?_
        exact ih x1 x2 x6 q56.1 (x6 + 1) q56.2 _ _ _ h hW (lv_sub hl [4, 5, 6, 2, 1, 0] rfl)
      · have h := (if_neg c65).symm.trans h
        refine lv_goto (tgt := 79) hx hb dX9_heir_68 (by decide) ?_
        refine lv_iinc (v := (x6 + 1)) (lv' := [(6, .int (x6 + 1)), (7, .int q56.1), (0, .ref (lb_ad G 53)), (1, .int x1), (2, .int x2), (4, .int x4), (5, .int x5)]) hx hb dX9_heir_79 hl (k := 6) rfl rfl (by decide) rfl (fun ls hl => ?_)
        refine lv_goto (tgt := 40) hx hb dX9_heir_82 (by decide) ?_
        exact ih x1 x2 x4 x5 (x6 + 1) q56.2 _ _ _ h hW (lv_sub hl [2, 3, 4, 5, 6, 0] rfl)
def f_X9_heir_19 (x1 : Int32) (x2 : Int32) (σ : lb_Mem) (y0 : Int32) : Option (Int32 × lb_Mem) := if y0 = 0 then f_X9_heir_40 lb_N x1 x2 (-9 : Int32) (-1 : Int32) (0 : Int32) σ else (f_X9_no y0 σ).bind (fun q26 => some (q26.1, q26.2))
set_option maxRecDepth 20000 in
set_option maxHeartbeats 4000000 in
theorem w_X9_heir_19 {p : Program} {l : Launch} {e : Env} {s : State} {m : MethodId} {args : Array Value} {below : List Frame} {meth : Method} {c : Code} {G : lb_G} {qr : (Int32 × lb_Mem)} (X : lb_C G p s m args meth c cX9_heir 8 RX9 (some .int)) : ∀ (x1 : Int32) (x2 : Int32) (σ : lb_Mem) (y0 : Int32) (H : Heap) (locs : List Loc) (ls : Array Slot), f_X9_heir_19 x1 x2 σ y0 = some qr → lb_W G s σ H locs → lv_has ls 8 [(0, .ref (lb_ad G 53)), (1, .int x1), (2, .int x2)] → W p l e rmX9_heir s m args below meth c H locs 0 0 (MQ below (lb_QI G qr.1 qr.2) args s 0 0 (lb_A G)) (F0 m 19 ls [.int y0]) := by
  have hx := X.1
  have hb := X.2.1
  intro x1 x2 σ y0 H locs ls h hW hl
  have h : (if y0 = 0 then f_X9_heir_40 lb_N x1 x2 (-9 : Int32) (-1 : Int32) (0 : Int32) σ else (f_X9_no y0 σ).bind (fun q26 => some (q26.1, q26.2))) = some qr := h
  refine lv_istore_n (lv' := [(3, .int y0), (0, .ref (lb_ad G 53)), (1, .int x1), (2, .int x2)]) hx hb dX9_heir_19 rfl hl (by decide) rfl (fun ls hl => ?_)
  refine lv_iload_n hx hb dX9_heir_20 rfl (lv_at hl 0 rfl) ?_
  refine lv_if_eq (tgt := 30) hx hb dX9_heir_21 (by decide) (fun c21 => ?_) (fun c21 => ?_)
  · have h := (if_pos c21).symm.trans h
    refine lv_bipush (v := -9) hx hb dX9_heir_30 rfl ?_
    refine lv_istore (lv' := [(4, .int (-9 : Int32)), (3, .int y0), (0, .ref (lb_ad G 53)), (1, .int x1), (2, .int x2)]) hx hb dX9_heir_32 hl (by decide) rfl (fun ls hl => ?_)
    refine lv_iconst (v := -1) hx hb dX9_heir_34 rfl ?_
    refine lv_istore (lv' := [(5, .int (-1 : Int32)), (4, .int (-9 : Int32)), (3, .int y0), (0, .ref (lb_ad G 53)), (1, .int x1), (2, .int x2)]) hx hb dX9_heir_35 hl (by decide) rfl (fun ls hl => ?_)
    refine lv_iconst (v := 0) hx hb dX9_heir_37 rfl ?_
    refine lv_istore (lv' := [(6, .int (0 : Int32)), (5, .int (-1 : Int32)), (4, .int (-9 : Int32)), (3, .int y0), (0, .ref (lb_ad G 53)), (1, .int x1), (2, .int x2)]) hx hb dX9_heir_38 hl (by decide) rfl (fun ls hl => ?_)
    exact w_X9_heir_40 X lb_N x1 x2 (-9 : Int32) (-1 : Int32) (0 : Int32) σ _ _ _ h hW (lv_sub hl [4, 5, 6, 2, 1, 0] rfl)
  · have h := (if_neg c21).symm.trans h
    refine lv_aload_n hx hb dX9_heir_24 rfl (lv_at hl 1 rfl) ?_
    refine lv_iload_n hx hb dX9_heir_25 rfl (lv_at hl 0 rfl) ?_
    obtain ⟨q26, e26, h⟩ := lb_bind h
    refine rc_X9_35 X hW e26 ⟨⟨rfl, rfl⟩, Nat.le_of_ble_eq_true rfl, Nat.le_of_ble_eq_true rfl⟩ hl.1 (Nat.le_of_ble_eq_true rfl) dX9_heir_26 ⟨Nat.zero_le _, Nat.zero_le _⟩ (fun H locs hW => ?_)
    obtain rfl := Option.some.inj h
    exact lb_iret X hW dX9_heir_29
def f_X9_heir (x1 : Int32) (x2 : Int32) (σ : lb_Mem) : Option (Int32 × lb_Mem) := if (f_X9_isPot σ x1) = 0 then f_X9_heir_19 x1 x2 σ (-1 : Int32) else f_X9_heir_19 x1 x2 σ (f_X9_wrongBy x2 (0 : Int32) (30 : Int32))
set_option maxRecDepth 20000 in
set_option maxHeartbeats 4000000 in
theorem m_X9_heir (l : Launch) (G : lb_G) (σ : lb_Mem) (x1 : Int32) (x2 : Int32) (qr : (Int32 × lb_Mem)) (h : f_X9_heir x1 x2 σ = some qr) : lb_M l yX9_heir cX9_heir 8 (some .int) rmX9_heir [.ref (lb_ad G 53), .int x1, .int x2] G σ (lb_QI G qr.1 qr.2) := by
  refine lb_start RX9 (by decide +kernel) rfl (Nat.le_of_ble_eq_true rfl) (fun p e s m below meth c X hW ls hl => ?_)
  have hx := X.1
  have hb := X.2.1
  have hl : lv_has ls 8 [(0, .ref (lb_ad G 53)), (1, .int x1), (2, .int x2)] := hl
  have h : (if (f_X9_isPot σ x1) = 0 then f_X9_heir_19 x1 x2 σ (-1 : Int32) else f_X9_heir_19 x1 x2 σ (f_X9_wrongBy x2 (0 : Int32) (30 : Int32))) = some qr := h
  skip
  refine lv_aload_n hx hb dX9_heir_0 rfl (lv_at hl 0 rfl) ?_
  refine lv_iload_n hx hb dX9_heir_1 rfl (lv_at hl 1 rfl) ?_
  refine rc_X9_102 X hW x1 ⟨⟨rfl, rfl⟩, Nat.le_of_ble_eq_true rfl, Nat.le_of_ble_eq_true rfl⟩ hl.1 (Nat.le_of_ble_eq_true rfl) dX9_heir_2 ⟨Nat.zero_le _, Nat.zero_le _⟩ (fun H locs hW => ?_)
  refine lv_if_eq (tgt := 18) hx hb dX9_heir_5 (by decide) (fun c5 => ?_) (fun c5 => ?_)
  · have h := (if_pos c5).symm.trans h
    refine lv_iconst (v := -1) hx hb dX9_heir_18 rfl ?_
    exact w_X9_heir_19 X x1 x2 σ (-1 : Int32) _ _ _ h hW (lv_sub hl [0, 1, 2] rfl)
  · have h := (if_neg c5).symm.trans h
    refine lv_iload_n hx hb dX9_heir_8 rfl (lv_at hl 2 rfl) ?_
    refine lv_iconst (v := 0) hx hb dX9_heir_9 rfl ?_
    refine lv_bipush (v := 30) hx hb dX9_heir_10 rfl ?_
    refine rc_X9_125 X hW x2 (0 : Int32) (30 : Int32) ⟨⟨rfl, rfl⟩, Nat.le_of_ble_eq_true rfl, Nat.le_of_ble_eq_true rfl⟩ hl.1 (Nat.le_of_ble_eq_true rfl) dX9_heir_12 ⟨Nat.zero_le _, Nat.zero_le _⟩ (fun H locs hW => ?_)
    refine lv_goto (tgt := 19) hx hb dX9_heir_15 (by decide) ?_
    exact w_X9_heir_19 X x1 x2 σ (f_X9_wrongBy x2 (0 : Int32) (30 : Int32)) _ _ _ h hW (lv_sub hl [0, 1, 2] rfl)
abbrev rmX9_leadBy : Room := { frames := 5, cells := 0, slots := 0, locals := 111 }
def f_X9_leadBy_46 (x1 : Int32) (x2 : Int32) (x7 : Int32) (σ : lb_Mem) : Option (Int32 × lb_Mem) := (f_X9_yearsOn 55 x7 σ).bind (fun s52 => lb_chk (lb_ix (f_X9_ofP x1 (1 : Int32)) 61) (lb_chk (lb_ix (f_X9_ofP x2 (1 : Int32)) 61) (some (((s52 55 (f_X9_ofP x1 (1 : Int32)).toNatClampNeg) - (s52 55 (f_X9_ofP x2 (1 : Int32)).toNatClampNeg)), s52))))
set_option maxRecDepth 20000 in
set_option maxHeartbeats 4000000 in
theorem w_X9_leadBy_46 {p : Program} {l : Launch} {e : Env} {s : State} {m : MethodId} {args : Array Value} {below : List Frame} {meth : Method} {c : Code} {G : lb_G} {qr : (Int32 × lb_Mem)} (X : lb_C G p s m args meth c cX9_leadBy 8 RX9 (some .int)) : ∀ (x1 : Int32) (x2 : Int32) (x7 : Int32) (σ : lb_Mem) (H : Heap) (locs : List Loc) (ls : Array Slot), f_X9_leadBy_46 x1 x2 x7 σ = some qr → lb_W G s σ H locs → lv_has ls 8 [(0, .ref (lb_ad G 53)), (1, .int x1), (2, .int x2), (7, .int x7)] → W p l e rmX9_leadBy s m args below meth c H locs 0 0 (MQ below (lb_QI G qr.1 qr.2) args s 0 0 (lb_A G)) (F0 m 46 ls []) := by
  have hx := X.1
  have hb := X.2.1
  intro x1 x2 x7 σ H locs ls h hW hl
  have h : ((f_X9_yearsOn 55 x7 σ).bind (fun s52 => lb_chk (lb_ix (f_X9_ofP x1 (1 : Int32)) 61) (lb_chk (lb_ix (f_X9_ofP x2 (1 : Int32)) 61) (some (((s52 55 (f_X9_ofP x1 (1 : Int32)).toNatClampNeg) - (s52 55 (f_X9_ofP x2 (1 : Int32)).toNatClampNeg)), s52))))) = some qr := h
  refine lv_aload_n hx hb dX9_leadBy_46 rfl (lv_at hl 0 rfl) ?_
  refine rg_X9_13 X hW dX9_leadBy_47 ?_
  refine lv_iload hx hb dX9_leadBy_50 (lv_at hl 3 rfl) ?_
  obtain ⟨s52, e52, h⟩ := lb_bind h
  refine rc_X9_105 X hW (show lb_ar 55 = 60 + 1 from rfl) e52 ⟨⟨rfl, rfl⟩, Nat.le_of_ble_eq_true rfl, Nat.le_of_ble_eq_true rfl⟩ hl.1 (Nat.le_of_ble_eq_true rfl) dX9_leadBy_52 ⟨Nat.zero_le _, Nat.zero_le _⟩ (fun H locs hW => ?_)
  refine lv_aload_n hx hb dX9_leadBy_55 rfl (lv_at hl 0 rfl) ?_
  refine rg_X9_13 X hW dX9_leadBy_56 ?_
  refine lv_iload_n hx hb dX9_leadBy_59 rfl (lv_at hl 1 rfl) ?_
  refine lv_iconst (v := 1) hx hb dX9_leadBy_60 rfl ?_
  refine rc_X9_52 X hW x1 (1 : Int32) ⟨⟨rfl, rfl⟩, Nat.le_of_ble_eq_true rfl, Nat.le_of_ble_eq_true rfl⟩ hl.1 (Nat.le_of_ble_eq_true rfl) dX9_leadBy_61 ⟨Nat.zero_le _, Nat.zero_le _⟩ (fun H locs hW => ?_)
  obtain ⟨i64, h⟩ := lb_chk_in h
  refine lb_ild X hW (show lb_ar 55 = 60 + 1 from rfl) i64 dX9_leadBy_64 ?_
  refine lv_aload_n hx hb dX9_leadBy_65 rfl (lv_at hl 0 rfl) ?_
  refine rg_X9_13 X hW dX9_leadBy_66 ?_
  refine lv_iload_n hx hb dX9_leadBy_69 rfl (lv_at hl 2 rfl) ?_
  refine lv_iconst (v := 1) hx hb dX9_leadBy_70 rfl ?_
  refine rc_X9_52 X hW x2 (1 : Int32) ⟨⟨rfl, rfl⟩, Nat.le_of_ble_eq_true rfl, Nat.le_of_ble_eq_true rfl⟩ hl.1 (Nat.le_of_ble_eq_true rfl) dX9_leadBy_71 ⟨Nat.zero_le _, Nat.zero_le _⟩ (fun H locs hW => ?_)
  obtain ⟨i74, h⟩ := lb_chk_in h
  refine lb_ild X hW (show lb_ar 55 = 60 + 1 from rfl) i74 dX9_leadBy_74 ?_
  refine lv_isub hx hb dX9_leadBy_75 ?_
  obtain rfl := Option.some.inj h
  exact lb_iret X hW dX9_leadBy_76
def f_X9_leadBy_28 (x1 : Int32) (x2 : Int32) (x5 : Int32) (x6 : Int32) (x7 : Int32) (σ : lb_Mem) : Option (Int32 × lb_Mem) := if x6 = (1 : Int32) then lb_chk (lb_ix (f_X9_ofT x5 (4 : Int32)) 61) (lb_let (lb_sto σ 55 (f_X9_ofT x5 (4 : Int32)).toNatClampNeg (0 : Int32)) (fun s45 : lb_Mem => f_X9_leadBy_46 x1 x2 x7 s45)) else f_X9_leadBy_46 x1 x2 x7 σ
set_option maxRecDepth 20000 in
set_option maxHeartbeats 4000000 in
theorem w_X9_leadBy_28 {p : Program} {l : Launch} {e : Env} {s : State} {m : MethodId} {args : Array Value} {below : List Frame} {meth : Method} {c : Code} {G : lb_G} {qr : (Int32 × lb_Mem)} (X : lb_C G p s m args meth c cX9_leadBy 8 RX9 (some .int)) : ∀ (x1 : Int32) (x2 : Int32) (x5 : Int32) (x6 : Int32) (x7 : Int32) (σ : lb_Mem) (H : Heap) (locs : List Loc) (ls : Array Slot), f_X9_leadBy_28 x1 x2 x5 x6 x7 σ = some qr → lb_W G s σ H locs → lv_has ls 8 [(0, .ref (lb_ad G 53)), (1, .int x1), (2, .int x2), (5, .int x5), (6, .int x6), (7, .int x7)] → W p l e rmX9_leadBy s m args below meth c H locs 0 0 (MQ below (lb_QI G qr.1 qr.2) args s 0 0 (lb_A G)) (F0 m 28 ls []) := by
  have hx := X.1
  have hb := X.2.1
  intro x1 x2 x5 x6 x7 σ H locs ls h hW hl
  have h : (if x6 = (1 : Int32) then lb_chk (lb_ix (f_X9_ofT x5 (4 : Int32)) 61) (lb_let (lb_sto σ 55 (f_X9_ofT x5 (4 : Int32)).toNatClampNeg (0 : Int32)) (fun s45 : lb_Mem => f_X9_leadBy_46 x1 x2 x7 s45)) else f_X9_leadBy_46 x1 x2 x7 σ) = some qr := h
  refine lv_iload hx hb dX9_leadBy_28 (lv_at hl 4 rfl) ?_
  refine lv_iconst (v := 1) hx hb dX9_leadBy_30 rfl ?_
  refine lv_icmp_ne (tgt := 46) hx hb dX9_leadBy_31 (by decide) (fun c31 => ?_) (fun c31 => ?_)
  · have h := (if_neg c31).symm.trans h
    exact w_X9_leadBy_46 X x1 x2 x7 σ _ _ _ h hW (lv_sub hl [0, 1, 2, 5] rfl)
  · have h := (if_pos c31).symm.trans h
    refine lv_aload_n hx hb dX9_leadBy_34 rfl (lv_at hl 0 rfl) ?_
    refine rg_X9_13 X hW dX9_leadBy_35 ?_
    refine lv_iload hx hb dX9_leadBy_38 (lv_at hl 3 rfl) ?_
    refine lv_iconst (v := 4) hx hb dX9_leadBy_40 rfl ?_
    refine rc_X9_45 X hW x5 (4 : Int32) ⟨⟨rfl, rfl⟩, Nat.le_of_ble_eq_true rfl, Nat.le_of_ble_eq_true rfl⟩ hl.1 (Nat.le_of_ble_eq_true rfl) dX9_leadBy_41 ⟨Nat.zero_le _, Nat.zero_le _⟩ (fun H locs hW => ?_)
    refine lv_iconst (v := 0) hx hb dX9_leadBy_44 rfl ?_
    obtain ⟨i45, h⟩ := lb_chk_in h
    refine lb_ist X hW (show lb_ar 55 = 60 + 1 from rfl) i45 dX9_leadBy_45 (fun H locs hW => ?_)
    obtain ⟨s45, e45⟩ : ∃ z, z = lb_sto σ 55 (f_X9_ofT x5 (4 : Int32)).toNatClampNeg (0 : Int32) := ⟨_, rfl⟩
    rw [← e45] at hW
    have h := lb_letI e45 h
    exact w_X9_leadBy_46 X x1 x2 x7 s45 _ _ _ h hW (lv_sub hl [0, 1, 2, 5] rfl)
def f_X9_leadBy (x1 : Int32) (x2 : Int32) (x3 : Int32) (x4 : Int32) (x5 : Int32) (x6 : Int32) (x7 : Int32) (σ : lb_Mem) : Option (Int32 × lb_Mem) := (f_X9_copies 54 55 σ).bind (fun s8 => if x4 = (1 : Int32) then lb_chk (lb_ix (f_X9_ofT x3 (4 : Int32)) 61) (lb_let (lb_sto s8 55 (f_X9_ofT x3 (4 : Int32)).toNatClampNeg (0 : Int32)) (fun s27 : lb_Mem => f_X9_leadBy_28 x1 x2 x5 x6 x7 s27)) else f_X9_leadBy_28 x1 x2 x5 x6 x7 s8)
set_option maxRecDepth 20000 in
set_option maxHeartbeats 4000000 in
theorem m_X9_leadBy (l : Launch) (G : lb_G) (σ : lb_Mem) (x1 : Int32) (x2 : Int32) (x3 : Int32) (x4 : Int32) (x5 : Int32) (x6 : Int32) (x7 : Int32) (qr : (Int32 × lb_Mem)) (h : f_X9_leadBy x1 x2 x3 x4 x5 x6 x7 σ = some qr) : lb_M l yX9_leadBy cX9_leadBy 8 (some .int) rmX9_leadBy [.ref (lb_ad G 53), .int x1, .int x2, .int x3, .int x4, .int x5, .int x6, .int x7] G σ (lb_QI G qr.1 qr.2) := by
  refine lb_start RX9 (by decide +kernel) rfl (Nat.le_of_ble_eq_true rfl) (fun p e s m below meth c X hW ls hl => ?_)
  have hx := X.1
  have hb := X.2.1
  have hl : lv_has ls 8 [(0, .ref (lb_ad G 53)), (1, .int x1), (2, .int x2), (3, .int x3), (4, .int x4), (5, .int x5), (6, .int x6), (7, .int x7)] := hl
  have h : ((f_X9_copies 54 55 σ).bind (fun s8 => if x4 = (1 : Int32) then lb_chk (lb_ix (f_X9_ofT x3 (4 : Int32)) 61) (lb_let (lb_sto s8 55 (f_X9_ofT x3 (4 : Int32)).toNatClampNeg (0 : Int32)) (fun s27 : lb_Mem => f_X9_leadBy_28 x1 x2 x5 x6 x7 s27)) else f_X9_leadBy_28 x1 x2 x5 x6 x7 s8)) = some qr := h
  skip
  refine lv_aload_n hx hb dX9_leadBy_0 rfl (lv_at hl 0 rfl) ?_
  refine rg_X9_9 X hW dX9_leadBy_1 ?_
  refine lv_aload_n hx hb dX9_leadBy_4 rfl (lv_at hl 0 rfl) ?_
  refine rg_X9_13 X hW dX9_leadBy_5 ?_
  obtain ⟨s8, e8, h⟩ := lb_bind h
  refine rc_X9_112 X hW (show lb_ar 54 = 60 + 1 from rfl) (show lb_ar 55 = 60 + 1 from rfl) e8 ⟨⟨rfl, rfl⟩, Nat.le_of_ble_eq_true rfl, Nat.le_of_ble_eq_true rfl⟩ hl.1 (Nat.le_of_ble_eq_true rfl) dX9_leadBy_8 ⟨Nat.zero_le _, Nat.zero_le _⟩ (fun H locs hW => ?_)
  refine lv_iload hx hb dX9_leadBy_11 (lv_at hl 4 rfl) ?_
  refine lv_iconst (v := 1) hx hb dX9_leadBy_13 rfl ?_
  refine lv_icmp_ne (tgt := 28) hx hb dX9_leadBy_14 (by decide) (fun c14 => ?_) (fun c14 => ?_)
  · have h := (if_neg c14).symm.trans h
    exact w_X9_leadBy_28 X x1 x2 x5 x6 x7 s8 _ _ _ h hW (lv_sub hl [0, 1, 2, 5, 6, 7] rfl)
  · have h := (if_pos c14).symm.trans h
    refine lv_aload_n hx hb dX9_leadBy_17 rfl (lv_at hl 0 rfl) ?_
    refine rg_X9_13 X hW dX9_leadBy_18 ?_
    refine lv_iload_n hx hb dX9_leadBy_21 rfl (lv_at hl 3 rfl) ?_
    refine lv_iconst (v := 4) hx hb dX9_leadBy_22 rfl ?_
    refine rc_X9_45 X hW x3 (4 : Int32) ⟨⟨rfl, rfl⟩, Nat.le_of_ble_eq_true rfl, Nat.le_of_ble_eq_true rfl⟩ hl.1 (Nat.le_of_ble_eq_true rfl) dX9_leadBy_23 ⟨Nat.zero_le _, Nat.zero_le _⟩ (fun H locs hW => ?_)
    refine lv_iconst (v := 0) hx hb dX9_leadBy_26 rfl ?_
    obtain ⟨i27, h⟩ := lb_chk_in h
    refine lb_ist X hW (show lb_ar 55 = 60 + 1 from rfl) i27 dX9_leadBy_27 (fun H locs hW => ?_)
    obtain ⟨s27, e27⟩ : ∃ z, z = lb_sto s8 55 (f_X9_ofT x3 (4 : Int32)).toNatClampNeg (0 : Int32) := ⟨_, rfl⟩
    rw [← e27] at hW
    have h := lb_letI e27 h
    exact w_X9_leadBy_28 X x1 x2 x5 x6 x7 s27 _ _ _ h hW (lv_sub hl [0, 1, 2, 5, 6, 7] rfl)
theorem rc_X9_173 {p : Program} {l : Launch} {e : Env} {R : Room} {s : State} {m : MethodId} {args : Array Value} {below : List Frame} {meth : Method} {c : Code} {H : Heap} {locs : List Loc} {cells slots : Nat} {Q : State → Prop} {cc : ByteArray} {pc nL : Nat} {ls : Array Slot} {rest : List Value} {G : lb_G} {σ : lb_Mem} {ret : Option FieldType} (X : lb_C G p s m args meth c cc nL RX9 ret) (hW : lb_W G s σ H locs) {x1 : Int32} {x2 : Int32} {x3 : Int32} {x4 : Int32} {x5 : Int32} {x6 : Int32} {x7 : Int32} {qr : (Int32 × lb_Mem)} (h : f_X9_leadBy x1 x2 x3 x4 x5 x6 x7 σ = some qr) (hR : lb_room rmX9_leadBy R 8) (hls : ls.size = nL) (hrest : (rest.map fun v => v.category).sum ≤ 8) (d : decode cc pc = .ok (.invokevirtual 173, 3)) (hcap : cells ≤ R.cells ∧ slots ≤ R.slots) (kk : ∀ (H1 : Heap) (locs1 : List Loc), lb_W G s qr.2 H1 locs1 → W p l e R s m args below meth c H1 locs1 cells slots Q (F0 m (pc + 3) ls (.int qr.1 :: rest))) : W p l e R s m args below meth c H locs cells slots Q (F0 m pc ls (.int x7 :: .int x6 :: .int x5 :: .int x4 :: .int x3 :: .int x2 :: .int x1 :: .ref (lb_ad G 53) :: rest)) :=
  lb_goI hW (lb_runV (As := [.int x1, .int x2, .int x3, .int x4, .int x5, .int x6, .int x7]) X hW (m_X9_leadBy l G σ x1 x2 x3 x4 x5 x6 x7 qr h) (n := 7) ⟨qw_1063, qw_52, qw_1066, by decide +kernel⟩ hR qw_1065 qw_39 lb_is53 rfl hls hrest d hcap) kk
abbrev rmX9_two : Room := { frames := 6, cells := 0, slots := 0, locals := 138 }
def f_X9_two_131 : Nat → Int32 → Int32 → Int32 → Int32 → Int32 → Int32 → lb_Mem → Option (Int32 × lb_Mem)
  | 0, _, _, _, _, _, _, _ => none
  | n + 1, x1, x2, x3, x5, x6, x7, σ => if (4 : Int32) ≤ x7 then some ((-9 : Int32), σ) else lb_let ((x7 / (2 : Int32))) (fun v141 : Int32 => lb_let ((x7 - x7 / (2 : Int32) * (2 : Int32))) (fun v147 : Int32 => (f_X9_leadBy x5 x6 x1 ((1 : Int32) - v141) x2 v147 x3 σ).bind (fun q163 => (f_X9_leadBy x5 x6 x1 v141 x2 v147 x3 q163.2).bind (fun q178 => if q178.1 < q163.1 then f_X9_two_131 n x1 x2 x3 x5 x6 (x7 + 1) q178.2 else (f_X9_leadBy x6 x5 x1 v141 x2 ((1 : Int32) - v147) x3 q178.2).bind (fun q198 => (f_X9_leadBy x6 x5 x1 v141 x2 v147 x3 q198.2).bind (fun q213 => if q213.1 < q198.1 then f_X9_two_131 n x1 x2 x3 x5 x6 (x7 + 1) q213.2 else some ((((10 : Int32) * v141) + v147), q213.2)))))))
set_option maxRecDepth 20000 in
set_option maxHeartbeats 4000000 in
theorem w_X9_two_131 {p : Program} {l : Launch} {e : Env} {s : State} {m : MethodId} {args : Array Value} {below : List Frame} {meth : Method} {c : Code} {G : lb_G} {qr : (Int32 × lb_Mem)} (X : lb_C G p s m args meth c cX9_two 10 RX9 (some .int)) : ∀ (n : Nat) (x1 : Int32) (x2 : Int32) (x3 : Int32) (x5 : Int32) (x6 : Int32) (x7 : Int32) (σ : lb_Mem) (H : Heap) (locs : List Loc) (ls : Array Slot), f_X9_two_131 n x1 x2 x3 x5 x6 x7 σ = some qr → lb_W G s σ H locs → lv_has ls 10 [(0, .ref (lb_ad G 53)), (1, .int x1), (2, .int x2), (3, .int x3), (5, .int x5), (6, .int x6), (7, .int x7)] → W p l e rmX9_two s m args below meth c H locs 0 0 (MQ below (lb_QI G qr.1 qr.2) args s 0 0 (lb_A G)) (F0 m 131 ls []) := by
  have hx := X.1
  have hb := X.2.1
  intro n
  induction n with
  | zero => intro x1 x2 x3 x5 x6 x7 σ H locs ls h hW hl; exact absurd h (fun z => by cases z)
  | succ n ih =>
    intro x1 x2 x3 x5 x6 x7 σ H locs ls h hW hl
    have h : (if (4 : Int32) ≤ x7 then some ((-9 : Int32), σ) else lb_let ((x7 / (2 : Int32))) (fun v141 : Int32 => lb_let ((x7 - x7 / (2 : Int32) * (2 : Int32))) (fun v147 : Int32 => (f_X9_leadBy x5 x6 x1 ((1 : Int32) - v141) x2 v147 x3 σ).bind (fun q163 => (f_X9_leadBy x5 x6 x1 v141 x2 v147 x3 q163.2).bind (fun q178 => if q178.1 < q163.1 then f_X9_two_131 n x1 x2 x3 x5 x6 (x7 + 1) q178.2 else (f_X9_leadBy x6 x5 x1 v141 x2 ((1 : Int32) - v147) x3 q178.2).bind (fun q198 => (f_X9_leadBy x6 x5 x1 v141 x2 v147 x3 q198.2).bind (fun q213 => if q213.1 < q198.1 then f_X9_two_131 n x1 x2 x3 x5 x6 (x7 + 1) q213.2 else some ((((10 : Int32) * v141) + v147), q213.2)))))))) = some qr := h
    refine lv_iload hx hb dX9_two_131 (lv_at hl 6 rfl) ?_
    refine lv_iconst (v := 4) hx hb dX9_two_133 rfl ?_
    refine lv_icmp_ge (tgt := 234) hx hb dX9_two_134 (by decide) (fun c134 => ?_) (fun c134 => ?_)
    · have h := (if_pos c134).symm.trans h
      refine lv_bipush (v := -9) hx hb dX9_two_234 rfl ?_
      obtain rfl := Option.some.inj h
      exact lb_iret X hW dX9_two_236
    · have h := (if_neg c134).symm.trans h
      refine lv_iload hx hb dX9_two_137 (lv_at hl 6 rfl) ?_
      refine lv_iconst (v := 2) hx hb dX9_two_139 rfl ?_
      refine lv_idiv hx hb dX9_two_140 (by decide) ?_
      refine lv_topi (fun v141 e141 => ?_)
      have h := lb_letI e141 h
      refine lv_istore (lv' := [(8, .int v141), (0, .ref (lb_ad G 53)), (1, .int x1), (2, .int x2), (3, .int x3), (5, .int x5), (6, .int x6), (7, .int x7)]) hx hb dX9_two_141 hl (by decide) rfl (fun ls hl => ?_)
      refine lv_iload hx hb dX9_two_143 (lv_at hl 7 rfl) ?_
      refine lv_iconst (v := 2) hx hb dX9_two_145 rfl ?_
      refine lv_irem hx hb dX9_two_146 (by decide) ?_
      refine lv_topi (fun v147 e147 => ?_)
      have h := lb_letI e147 h
      refine lv_istore (lv' := [(9, .int v147), (8, .int v141), (0, .ref (lb_ad G 53)), (1, .int x1), (2, .int x2), (3, .int x3), (5, .int x5), (6, .int x6), (7, .int x7)]) hx hb dX9_two_147 hl (by decide) rfl (fun ls hl => ?_)
      refine lv_aload_n hx hb dX9_two_149 rfl (lv_at hl 2 rfl) ?_
      refine lv_iload hx hb dX9_two_150 (lv_at hl 6 rfl) ?_
      refine lv_iload hx hb dX9_two_152 (lv_at hl 7 rfl) ?_
      refine lv_iload_n hx hb dX9_two_154 rfl (lv_at hl 3 rfl) ?_
      refine lv_iconst (v := 1) hx hb dX9_two_155 rfl ?_
      refine lv_iload hx hb dX9_two_156 (lv_at hl 1 rfl) ?_
      refine lv_isub hx hb dX9_two_158 ?_
      refine lv_iload_n hx hb dX9_two_159 rfl (lv_at hl 4 rfl) ?_
      refine lv_iload hx hb dX9_two_160 (lv_at hl 0 rfl) ?_
      refine lv_iload_n hx hb dX9_two_162 rfl (lv_at hl 5 rfl) ?_
      obtain ⟨q163, e163, h⟩ := lb_bind h
      refine rc_X9_173 X hW e163 ⟨⟨rfl, rfl⟩, Nat.le_of_ble_eq_true rfl, Nat.le_of_ble_eq_true rfl⟩ hl.1 (Nat.le_of_ble_eq_true rfl) dX9_two_163 ⟨Nat.zero_le _, Nat.zero_le _⟩ (fun H locs hW => ?_)
      refine lv_aload_n hx hb dX9_two_166 rfl (lv_at hl 2 rfl) ?_
      refine lv_iload hx hb dX9_two_167 (lv_at hl 6 rfl) ?_
      refine lv_iload hx hb dX9_two_169 (lv_at hl 7 rfl) ?_
      refine lv_iload_n hx hb dX9_two_171 rfl (lv_at hl 3 rfl) ?_
      refine lv_iload hx hb dX9_two_172 (lv_at hl 1 rfl) ?_
      refine lv_iload_n hx hb dX9_two_174 rfl (lv_at hl 4 rfl) ?_
      refine lv_iload hx hb dX9_two_175 (lv_at hl 0 rfl) ?_
      refine lv_iload_n hx hb dX9_two_177 rfl (lv_at hl 5 rfl) ?_
      obtain ⟨q178, e178, h⟩ := lb_bind h
      refine rc_X9_173 X hW e178 ⟨⟨rfl, rfl⟩, Nat.le_of_ble_eq_true rfl, Nat.le_of_ble_eq_true rfl⟩ hl.1 (Nat.le_of_ble_eq_true rfl) dX9_two_178 ⟨Nat.zero_le _, Nat.zero_le _⟩ (fun H locs hW => ?_)
      refine lv_icmp_gt (tgt := 228) hx hb dX9_two_181 (by decide) (fun c181 => ?_) (fun c181 => ?_)
      · have h := (if_pos c181).symm.trans h
        refine lv_iinc (v := (x7 + 1)) (lv' := [(7, .int (x7 + 1)), (9, .int v147), (8, .int v141), (0, .ref (lb_ad G 53)), (1, .int x1), (2, .int x2), (3, .int x3), (5, .int x5), (6, .int x6)]) hx hb dX9_two_228 hl (k := 8) rfl rfl (by decide) rfl (fun ls hl => ?_)
        refine lv_goto (tgt := 131) hx hb dX9_two_231 (by decide) ?_
        exact ih x1 x2 x3 x5 x6 (x7 + 1) q178.2 _ _ _ h hW (lv_sub hl [3, 4, 5, 6, 7, 8, 0] rfl)
      · have h := (if_neg c181).symm.trans h
        refine lv_aload_n hx hb dX9_two_184 rfl (lv_at hl 2 rfl) ?_
        refine lv_iload hx hb dX9_two_185 (lv_at hl 7 rfl) ?_
        refine lv_iload hx hb dX9_two_187 (lv_at hl 6 rfl) ?_
        refine lv_iload_n hx hb dX9_two_189 rfl (lv_at hl 3 rfl) ?_
        refine lv_iload hx hb dX9_two_190 (lv_at hl 1 rfl) ?_
        refine lv_iload_n hx hb dX9_two_192 rfl (lv_at hl 4 rfl) ?_
        refine lv_iconst (v := 1) hx hb dX9_two_193 rfl ?_
        refine lv_iload hx hb dX9_two_194 (lv_at hl 0 rfl) ?_
        refine lv_isub hx hb dX9_two_196 ?_
        refine lv_iload_n hx hb dX9_two_197 rfl (lv_at hl 5 rfl) ?_
        obtain ⟨q198, e198, h⟩ := lb_bind h
        refine rc_X9_173 X hW e198 ⟨⟨rfl, rfl⟩, Nat.le_of_ble_eq_true rfl, Nat.le_of_ble_eq_true rfl⟩ hl.1 (Nat.le_of_ble_eq_true rfl) dX9_two_198 ⟨Nat.zero_le _, Nat.zero_le _⟩ (fun H locs hW => ?_)
        refine lv_aload_n hx hb dX9_two_201 rfl (lv_at hl 2 rfl) ?_
        refine lv_iload hx hb dX9_two_202 (lv_at hl 7 rfl) ?_
        refine lv_iload hx hb dX9_two_204 (lv_at hl 6 rfl) ?_
        refine lv_iload_n hx hb dX9_two_206 rfl (lv_at hl 3 rfl) ?_
        refine lv_iload hx hb dX9_two_207 (lv_at hl 1 rfl) ?_
        refine lv_iload_n hx hb dX9_two_209 rfl (lv_at hl 4 rfl) ?_
        refine lv_iload hx hb dX9_two_210 (lv_at hl 0 rfl) ?_
        refine lv_iload_n hx hb dX9_two_212 rfl (lv_at hl 5 rfl) ?_
        obtain ⟨q213, e213, h⟩ := lb_bind h
        refine rc_X9_173 X hW e213 ⟨⟨rfl, rfl⟩, Nat.le_of_ble_eq_true rfl, Nat.le_of_ble_eq_true rfl⟩ hl.1 (Nat.le_of_ble_eq_true rfl) dX9_two_213 ⟨Nat.zero_le _, Nat.zero_le _⟩ (fun H locs hW => ?_)
        refine lv_icmp_gt (tgt := 228) hx hb dX9_two_216 (by decide) (fun c216 => ?_) (fun c216 => ?_)
        · have h := (if_pos c216).symm.trans h
          refine lv_iinc (v := (x7 + 1)) (lv' := [(7, .int (x7 + 1)), (9, .int v147), (8, .int v141), (0, .ref (lb_ad G 53)), (1, .int x1), (2, .int x2), (3, .int x3), (5, .int x5), (6, .int x6)]) hx hb dX9_two_228 hl (k := 8) rfl rfl (by decide) rfl (fun ls hl => ?_)
          refine lv_goto (tgt := 131) hx hb dX9_two_231 (by decide) ?_
          exact ih x1 x2 x3 x5 x6 (x7 + 1) q213.2 _ _ _ h hW (lv_sub hl [3, 4, 5, 6, 7, 8, 0] rfl)
        · have h := (if_neg c216).symm.trans h
          refine lv_bipush (v := 10) hx hb dX9_two_219 rfl ?_
          refine lv_iload hx hb dX9_two_221 (lv_at hl 1 rfl) ?_
          refine lv_imul hx hb dX9_two_223 ?_
          refine lv_iload hx hb dX9_two_224 (lv_at hl 0 rfl) ?_
          refine lv_iadd hx hb dX9_two_226 ?_
          obtain rfl := Option.some.inj h
          exact lb_iret X hW dX9_two_227
def f_X9_two_92 (x1 : Int32) (x2 : Int32) (x3 : Int32) (x4 : Int32) (σ : lb_Mem) : Option (Int32 × lb_Mem) := if x4 = 0 then lb_chk (lb_ix (f_X9_ofT x1 (5 : Int32)) 61) (lb_let ((σ 54 (f_X9_ofT x1 (5 : Int32)).toNatClampNeg)) (fun v114 : Int32 => lb_chk (lb_ix (f_X9_ofT x2 (5 : Int32)) 61) (lb_let ((σ 54 (f_X9_ofT x2 (5 : Int32)).toNatClampNeg)) (fun v126 : Int32 => f_X9_two_131 lb_N x1 x2 x3 v114 v126 (0 : Int32) σ)))) else (f_X9_no x4 σ).bind (fun q100 => some (q100.1, q100.2))
set_option maxRecDepth 20000 in
set_option maxHeartbeats 4000000 in
theorem w_X9_two_92 {p : Program} {l : Launch} {e : Env} {s : State} {m : MethodId} {args : Array Value} {below : List Frame} {meth : Method} {c : Code} {G : lb_G} {qr : (Int32 × lb_Mem)} (X : lb_C G p s m args meth c cX9_two 10 RX9 (some .int)) : ∀ (x1 : Int32) (x2 : Int32) (x3 : Int32) (x4 : Int32) (σ : lb_Mem) (H : Heap) (locs : List Loc) (ls : Array Slot), f_X9_two_92 x1 x2 x3 x4 σ = some qr → lb_W G s σ H locs → lv_has ls 10 [(0, .ref (lb_ad G 53)), (1, .int x1), (2, .int x2), (3, .int x3), (4, .int x4)] → W p l e rmX9_two s m args below meth c H locs 0 0 (MQ below (lb_QI G qr.1 qr.2) args s 0 0 (lb_A G)) (F0 m 92 ls []) := by
  have hx := X.1
  have hb := X.2.1
  intro x1 x2 x3 x4 σ H locs ls h hW hl
  have h : (if x4 = 0 then lb_chk (lb_ix (f_X9_ofT x1 (5 : Int32)) 61) (lb_let ((σ 54 (f_X9_ofT x1 (5 : Int32)).toNatClampNeg)) (fun v114 : Int32 => lb_chk (lb_ix (f_X9_ofT x2 (5 : Int32)) 61) (lb_let ((σ 54 (f_X9_ofT x2 (5 : Int32)).toNatClampNeg)) (fun v126 : Int32 => f_X9_two_131 lb_N x1 x2 x3 v114 v126 (0 : Int32) σ)))) else (f_X9_no x4 σ).bind (fun q100 => some (q100.1, q100.2))) = some qr := h
  refine lv_iload hx hb dX9_two_92 (lv_at hl 4 rfl) ?_
  refine lv_if_eq (tgt := 104) hx hb dX9_two_94 (by decide) (fun c94 => ?_) (fun c94 => ?_)
  · have h := (if_pos c94).symm.trans h
    refine lv_aload_n hx hb dX9_two_104 rfl (lv_at hl 0 rfl) ?_
    refine rg_X9_9 X hW dX9_two_105 ?_
    refine lv_iload_n hx hb dX9_two_108 rfl (lv_at hl 1 rfl) ?_
    refine lv_iconst (v := 5) hx hb dX9_two_109 rfl ?_
    refine rc_X9_45 X hW x1 (5 : Int32) ⟨⟨rfl, rfl⟩, Nat.le_of_ble_eq_true rfl, Nat.le_of_ble_eq_true rfl⟩ hl.1 (Nat.le_of_ble_eq_true rfl) dX9_two_110 ⟨Nat.zero_le _, Nat.zero_le _⟩ (fun H locs hW => ?_)
    obtain ⟨i113, h⟩ := lb_chk_in h
    refine lb_ild X hW (show lb_ar 54 = 60 + 1 from rfl) i113 dX9_two_113 ?_
    refine lv_topi (fun v114 e114 => ?_)
    have h := lb_letI e114 h
    refine lv_istore (lv' := [(5, .int v114), (0, .ref (lb_ad G 53)), (1, .int x1), (2, .int x2), (3, .int x3), (4, .int x4)]) hx hb dX9_two_114 hl (by decide) rfl (fun ls hl => ?_)
    refine lv_aload_n hx hb dX9_two_116 rfl (lv_at hl 1 rfl) ?_
    refine rg_X9_9 X hW dX9_two_117 ?_
    refine lv_iload_n hx hb dX9_two_120 rfl (lv_at hl 3 rfl) ?_
    refine lv_iconst (v := 5) hx hb dX9_two_121 rfl ?_
    refine rc_X9_45 X hW x2 (5 : Int32) ⟨⟨rfl, rfl⟩, Nat.le_of_ble_eq_true rfl, Nat.le_of_ble_eq_true rfl⟩ hl.1 (Nat.le_of_ble_eq_true rfl) dX9_two_122 ⟨Nat.zero_le _, Nat.zero_le _⟩ (fun H locs hW => ?_)
    obtain ⟨i125, h⟩ := lb_chk_in h
    refine lb_ild X hW (show lb_ar 54 = 60 + 1 from rfl) i125 dX9_two_125 ?_
    refine lv_topi (fun v126 e126 => ?_)
    have h := lb_letI e126 h
    refine lv_istore (lv' := [(6, .int v126), (5, .int v114), (0, .ref (lb_ad G 53)), (1, .int x1), (2, .int x2), (3, .int x3), (4, .int x4)]) hx hb dX9_two_126 hl (by decide) rfl (fun ls hl => ?_)
    refine lv_iconst (v := 0) hx hb dX9_two_128 rfl ?_
    refine lv_istore (lv' := [(7, .int (0 : Int32)), (6, .int v126), (5, .int v114), (0, .ref (lb_ad G 53)), (1, .int x1), (2, .int x2), (3, .int x3), (4, .int x4)]) hx hb dX9_two_129 hl (by decide) rfl (fun ls hl => ?_)
    exact w_X9_two_131 X lb_N x1 x2 x3 v114 v126 (0 : Int32) σ _ _ _ h hW (lv_sub hl [3, 4, 5, 6, 2, 1, 0] rfl)
  · have h := (if_neg c94).symm.trans h
    refine lv_aload_n hx hb dX9_two_97 rfl (lv_at hl 0 rfl) ?_
    refine lv_iload hx hb dX9_two_98 (lv_at hl 4 rfl) ?_
    obtain ⟨q100, e100, h⟩ := lb_bind h
    refine rc_X9_35 X hW e100 ⟨⟨rfl, rfl⟩, Nat.le_of_ble_eq_true rfl, Nat.le_of_ble_eq_true rfl⟩ hl.1 (Nat.le_of_ble_eq_true rfl) dX9_two_100 ⟨Nat.zero_le _, Nat.zero_le _⟩ (fun H locs hW => ?_)
    obtain rfl := Option.some.inj h
    exact lb_iret X hW dX9_two_103
def f_X9_two_88 (x1 : Int32) (x2 : Int32) (x3 : Int32) (σ : lb_Mem) : Option (Int32 × lb_Mem) := f_X9_two_92 x1 x2 x3 (-3 : Int32) σ
set_option maxRecDepth 20000 in
set_option maxHeartbeats 4000000 in
theorem w_X9_two_88 {p : Program} {l : Launch} {e : Env} {s : State} {m : MethodId} {args : Array Value} {below : List Frame} {meth : Method} {c : Code} {G : lb_G} {qr : (Int32 × lb_Mem)} (X : lb_C G p s m args meth c cX9_two 10 RX9 (some .int)) : ∀ (x1 : Int32) (x2 : Int32) (x3 : Int32) (σ : lb_Mem) (H : Heap) (locs : List Loc) (ls : Array Slot), f_X9_two_88 x1 x2 x3 σ = some qr → lb_W G s σ H locs → lv_has ls 10 [(0, .ref (lb_ad G 53)), (1, .int x1), (2, .int x2), (3, .int x3)] → W p l e rmX9_two s m args below meth c H locs 0 0 (MQ below (lb_QI G qr.1 qr.2) args s 0 0 (lb_A G)) (F0 m 88 ls []) := by
  have hx := X.1
  have hb := X.2.1
  intro x1 x2 x3 σ H locs ls h hW hl
  have h : (f_X9_two_92 x1 x2 x3 (-3 : Int32) σ) = some qr := h
  refine lv_bipush (v := -3) hx hb dX9_two_88 rfl ?_
  refine lv_istore (lv' := [(4, .int (-3 : Int32)), (0, .ref (lb_ad G 53)), (1, .int x1), (2, .int x2), (3, .int x3)]) hx hb dX9_two_90 hl (by decide) rfl (fun ls hl => ?_)
  exact w_X9_two_92 X x1 x2 x3 (-3 : Int32) σ _ _ _ h hW (lv_sub hl [1, 2, 3, 4, 0] rfl)
def f_X9_two_32 (x1 : Int32) (x2 : Int32) (x3 : Int32) (σ : lb_Mem) (y0 : Int32) : Option (Int32 × lb_Mem) := if y0 = 0 then lb_chk (lb_ix (f_X9_ofT x1 (4 : Int32)) 61) (if (σ 54 (f_X9_ofT x1 (4 : Int32)).toNatClampNeg) = 0 then f_X9_two_88 x1 x2 x3 σ else lb_chk (lb_ix (f_X9_ofT x2 (4 : Int32)) 61) (if (σ 54 (f_X9_ofT x2 (4 : Int32)).toNatClampNeg) = 0 then f_X9_two_88 x1 x2 x3 σ else lb_chk (lb_ix (f_X9_ofT x1 (5 : Int32)) 61) (lb_chk (lb_ix (f_X9_ofT x2 (5 : Int32)) 61) (if (σ 54 (f_X9_ofT x1 (5 : Int32)).toNatClampNeg) = (σ 54 (f_X9_ofT x2 (5 : Int32)).toNatClampNeg) then f_X9_two_88 x1 x2 x3 σ else f_X9_two_92 x1 x2 x3 y0 σ)))) else f_X9_two_92 x1 x2 x3 y0 σ
set_option maxRecDepth 20000 in
set_option maxHeartbeats 4000000 in
theorem w_X9_two_32 {p : Program} {l : Launch} {e : Env} {s : State} {m : MethodId} {args : Array Value} {below : List Frame} {meth : Method} {c : Code} {G : lb_G} {qr : (Int32 × lb_Mem)} (X : lb_C G p s m args meth c cX9_two 10 RX9 (some .int)) : ∀ (x1 : Int32) (x2 : Int32) (x3 : Int32) (σ : lb_Mem) (y0 : Int32) (H : Heap) (locs : List Loc) (ls : Array Slot), f_X9_two_32 x1 x2 x3 σ y0 = some qr → lb_W G s σ H locs → lv_has ls 10 [(0, .ref (lb_ad G 53)), (1, .int x1), (2, .int x2), (3, .int x3)] → W p l e rmX9_two s m args below meth c H locs 0 0 (MQ below (lb_QI G qr.1 qr.2) args s 0 0 (lb_A G)) (F0 m 32 ls [.int y0]) := by
  have hx := X.1
  have hb := X.2.1
  intro x1 x2 x3 σ y0 H locs ls h hW hl
  have h : (if y0 = 0 then lb_chk (lb_ix (f_X9_ofT x1 (4 : Int32)) 61) (if (σ 54 (f_X9_ofT x1 (4 : Int32)).toNatClampNeg) = 0 then f_X9_two_88 x1 x2 x3 σ else lb_chk (lb_ix (f_X9_ofT x2 (4 : Int32)) 61) (if (σ 54 (f_X9_ofT x2 (4 : Int32)).toNatClampNeg) = 0 then f_X9_two_88 x1 x2 x3 σ else lb_chk (lb_ix (f_X9_ofT x1 (5 : Int32)) 61) (lb_chk (lb_ix (f_X9_ofT x2 (5 : Int32)) 61) (if (σ 54 (f_X9_ofT x1 (5 : Int32)).toNatClampNeg) = (σ 54 (f_X9_ofT x2 (5 : Int32)).toNatClampNeg) then f_X9_two_88 x1 x2 x3 σ else f_X9_two_92 x1 x2 x3 y0 σ)))) else f_X9_two_92 x1 x2 x3 y0 σ) = some qr := h
  refine lv_istore (lv' := [(4, .int y0), (0, .ref (lb_ad G 53)), (1, .int x1), (2, .int x2), (3, .int x3)]) hx hb dX9_two_32 hl (by decide) rfl (fun ls hl => ?_)
  refine lv_iload hx hb dX9_two_34 (lv_at hl 0 rfl) ?_
  refine lv_if_ne (tgt := 92) hx hb dX9_two_36 (by decide) (fun c36 => ?_) (fun c36 => ?_)
  · have h := (if_neg c36).symm.trans h
    exact w_X9_two_92 X x1 x2 x3 y0 σ _ _ _ h hW (lv_sub hl [1, 2, 3, 4, 0] rfl)
  · have h := (if_pos c36).symm.trans h
    refine lv_aload_n hx hb dX9_two_39 rfl (lv_at hl 1 rfl) ?_
    refine rg_X9_9 X hW dX9_two_40 ?_
    refine lv_iload_n hx hb dX9_two_43 rfl (lv_at hl 2 rfl) ?_
    refine lv_iconst (v := 4) hx hb dX9_two_44 rfl ?_
    refine rc_X9_45 X hW x1 (4 : Int32) ⟨⟨rfl, rfl⟩, Nat.le_of_ble_eq_true rfl, Nat.le_of_ble_eq_true rfl⟩ hl.1 (Nat.le_of_ble_eq_true rfl) dX9_two_45 ⟨Nat.zero_le _, Nat.zero_le _⟩ (fun H locs hW => ?_)
    obtain ⟨i48, h⟩ := lb_chk_in h
    refine lb_ild X hW (show lb_ar 54 = 60 + 1 from rfl) i48 dX9_two_48 ?_
    refine lv_if_eq (tgt := 88) hx hb dX9_two_49 (by decide) (fun c49 => ?_) (fun c49 => ?_)
    · have h := (if_pos c49).symm.trans h
      exact w_X9_two_88 X x1 x2 x3 σ _ _ _ h hW (lv_sub hl [1, 2, 3, 4] rfl)
    · have h := (if_neg c49).symm.trans h
      refine lv_aload_n hx hb dX9_two_52 rfl (lv_at hl 1 rfl) ?_
      refine rg_X9_9 X hW dX9_two_53 ?_
      refine lv_iload_n hx hb dX9_two_56 rfl (lv_at hl 3 rfl) ?_
      refine lv_iconst (v := 4) hx hb dX9_two_57 rfl ?_
      refine rc_X9_45 X hW x2 (4 : Int32) ⟨⟨rfl, rfl⟩, Nat.le_of_ble_eq_true rfl, Nat.le_of_ble_eq_true rfl⟩ hl.1 (Nat.le_of_ble_eq_true rfl) dX9_two_58 ⟨Nat.zero_le _, Nat.zero_le _⟩ (fun H locs hW => ?_)
      obtain ⟨i61, h⟩ := lb_chk_in h
      refine lb_ild X hW (show lb_ar 54 = 60 + 1 from rfl) i61 dX9_two_61 ?_
      refine lv_if_eq (tgt := 88) hx hb dX9_two_62 (by decide) (fun c62 => ?_) (fun c62 => ?_)
      · have h := (if_pos c62).symm.trans h
        exact w_X9_two_88 X x1 x2 x3 σ _ _ _ h hW (lv_sub hl [1, 2, 3, 4] rfl)
      · have h := (if_neg c62).symm.trans h
        refine lv_aload_n hx hb dX9_two_65 rfl (lv_at hl 1 rfl) ?_
        refine rg_X9_9 X hW dX9_two_66 ?_
        refine lv_iload_n hx hb dX9_two_69 rfl (lv_at hl 2 rfl) ?_
        refine lv_iconst (v := 5) hx hb dX9_two_70 rfl ?_
        refine rc_X9_45 X hW x1 (5 : Int32) ⟨⟨rfl, rfl⟩, Nat.le_of_ble_eq_true rfl, Nat.le_of_ble_eq_true rfl⟩ hl.1 (Nat.le_of_ble_eq_true rfl) dX9_two_71 ⟨Nat.zero_le _, Nat.zero_le _⟩ (fun H locs hW => ?_)
        obtain ⟨i74, h⟩ := lb_chk_in h
        refine lb_ild X hW (show lb_ar 54 = 60 + 1 from rfl) i74 dX9_two_74 ?_
        refine lv_aload_n hx hb dX9_two_75 rfl (lv_at hl 1 rfl) ?_
        refine rg_X9_9 X hW dX9_two_76 ?_
        refine lv_iload_n hx hb dX9_two_79 rfl (lv_at hl 3 rfl) ?_
        refine lv_iconst (v := 5) hx hb dX9_two_80 rfl ?_
        refine rc_X9_45 X hW x2 (5 : Int32) ⟨⟨rfl, rfl⟩, Nat.le_of_ble_eq_true rfl, Nat.le_of_ble_eq_true rfl⟩ hl.1 (Nat.le_of_ble_eq_true rfl) dX9_two_81 ⟨Nat.zero_le _, Nat.zero_le _⟩ (fun H locs hW => ?_)
        obtain ⟨i84, h⟩ := lb_chk_in h
        refine lb_ild X hW (show lb_ar 54 = 60 + 1 from rfl) i84 dX9_two_84 ?_
        refine lv_icmp_ne (tgt := 92) hx hb dX9_two_85 (by decide) (fun c85 => ?_) (fun c85 => ?_)
        · have h := (if_neg c85).symm.trans h
          exact w_X9_two_92 X x1 x2 x3 y0 σ _ _ _ h hW (lv_sub hl [1, 2, 3, 4, 0] rfl)
        · have h := (if_pos c85).symm.trans h
          exact w_X9_two_88 X x1 x2 x3 σ _ _ _ h hW (lv_sub hl [1, 2, 3, 4] rfl)
def f_X9_two_31 (x1 : Int32) (x2 : Int32) (x3 : Int32) (σ : lb_Mem) : Option (Int32 × lb_Mem) := f_X9_two_32 x1 x2 x3 σ (-1 : Int32)
set_option maxRecDepth 20000 in
set_option maxHeartbeats 4000000 in
theorem w_X9_two_31 {p : Program} {l : Launch} {e : Env} {s : State} {m : MethodId} {args : Array Value} {below : List Frame} {meth : Method} {c : Code} {G : lb_G} {qr : (Int32 × lb_Mem)} (X : lb_C G p s m args meth c cX9_two 10 RX9 (some .int)) : ∀ (x1 : Int32) (x2 : Int32) (x3 : Int32) (σ : lb_Mem) (H : Heap) (locs : List Loc) (ls : Array Slot), f_X9_two_31 x1 x2 x3 σ = some qr → lb_W G s σ H locs → lv_has ls 10 [(0, .ref (lb_ad G 53)), (1, .int x1), (2, .int x2), (3, .int x3)] → W p l e rmX9_two s m args below meth c H locs 0 0 (MQ below (lb_QI G qr.1 qr.2) args s 0 0 (lb_A G)) (F0 m 31 ls []) := by
  have hx := X.1
  have hb := X.2.1
  intro x1 x2 x3 σ H locs ls h hW hl
  have h : (f_X9_two_32 x1 x2 x3 σ (-1 : Int32)) = some qr := h
  refine lv_iconst (v := -1) hx hb dX9_two_31 rfl ?_
  exact w_X9_two_32 X x1 x2 x3 σ (-1 : Int32) _ _ _ h hW (lv_sub hl [0, 1, 2, 3] rfl)
def f_X9_two (x1 : Int32) (x2 : Int32) (x3 : Int32) (σ : lb_Mem) : Option (Int32 × lb_Mem) := if (f_X9_isPot σ x1) = 0 then f_X9_two_31 x1 x2 x3 σ else if (f_X9_isPot σ x2) = 0 then f_X9_two_31 x1 x2 x3 σ else if x1 = x2 then f_X9_two_31 x1 x2 x3 σ else f_X9_two_32 x1 x2 x3 σ (f_X9_wrongBy x3 (0 : Int32) (30 : Int32))
set_option maxRecDepth 20000 in
set_option maxHeartbeats 4000000 in
theorem m_X9_two (l : Launch) (G : lb_G) (σ : lb_Mem) (x1 : Int32) (x2 : Int32) (x3 : Int32) (qr : (Int32 × lb_Mem)) (h : f_X9_two x1 x2 x3 σ = some qr) : lb_M l yX9_two cX9_two 10 (some .int) rmX9_two [.ref (lb_ad G 53), .int x1, .int x2, .int x3] G σ (lb_QI G qr.1 qr.2) := by
  refine lb_start RX9 (by decide +kernel) rfl (Nat.le_of_ble_eq_true rfl) (fun p e s m below meth c X hW ls hl => ?_)
  have hx := X.1
  have hb := X.2.1
  have hl : lv_has ls 10 [(0, .ref (lb_ad G 53)), (1, .int x1), (2, .int x2), (3, .int x3)] := hl
  have h : (if (f_X9_isPot σ x1) = 0 then f_X9_two_31 x1 x2 x3 σ else if (f_X9_isPot σ x2) = 0 then f_X9_two_31 x1 x2 x3 σ else if x1 = x2 then f_X9_two_31 x1 x2 x3 σ else f_X9_two_32 x1 x2 x3 σ (f_X9_wrongBy x3 (0 : Int32) (30 : Int32))) = some qr := h
  skip
  refine lv_aload_n hx hb dX9_two_0 rfl (lv_at hl 0 rfl) ?_
  refine lv_iload_n hx hb dX9_two_1 rfl (lv_at hl 1 rfl) ?_
  refine rc_X9_102 X hW x1 ⟨⟨rfl, rfl⟩, Nat.le_of_ble_eq_true rfl, Nat.le_of_ble_eq_true rfl⟩ hl.1 (Nat.le_of_ble_eq_true rfl) dX9_two_2 ⟨Nat.zero_le _, Nat.zero_le _⟩ (fun H locs hW => ?_)
  refine lv_if_eq (tgt := 31) hx hb dX9_two_5 (by decide) (fun c5 => ?_) (fun c5 => ?_)
  · have h := (if_pos c5).symm.trans h
    exact w_X9_two_31 X x1 x2 x3 σ _ _ _ h hW (lv_sub hl [0, 1, 2, 3] rfl)
  · have h := (if_neg c5).symm.trans h
    refine lv_aload_n hx hb dX9_two_8 rfl (lv_at hl 0 rfl) ?_
    refine lv_iload_n hx hb dX9_two_9 rfl (lv_at hl 2 rfl) ?_
    refine rc_X9_102 X hW x2 ⟨⟨rfl, rfl⟩, Nat.le_of_ble_eq_true rfl, Nat.le_of_ble_eq_true rfl⟩ hl.1 (Nat.le_of_ble_eq_true rfl) dX9_two_10 ⟨Nat.zero_le _, Nat.zero_le _⟩ (fun H locs hW => ?_)
    refine lv_if_eq (tgt := 31) hx hb dX9_two_13 (by decide) (fun c13 => ?_) (fun c13 => ?_)
    · have h := (if_pos c13).symm.trans h
      exact w_X9_two_31 X x1 x2 x3 σ _ _ _ h hW (lv_sub hl [0, 1, 2, 3] rfl)
    · have h := (if_neg c13).symm.trans h
      refine lv_iload_n hx hb dX9_two_16 rfl (lv_at hl 1 rfl) ?_
      refine lv_iload_n hx hb dX9_two_17 rfl (lv_at hl 2 rfl) ?_
      refine lv_icmp_eq (tgt := 31) hx hb dX9_two_18 (by decide) (fun c18 => ?_) (fun c18 => ?_)
      · have h := (if_pos c18).symm.trans h
        exact w_X9_two_31 X x1 x2 x3 σ _ _ _ h hW (lv_sub hl [0, 1, 2, 3] rfl)
      · have h := (if_neg c18).symm.trans h
        refine lv_iload_n hx hb dX9_two_21 rfl (lv_at hl 3 rfl) ?_
        refine lv_iconst (v := 0) hx hb dX9_two_22 rfl ?_
        refine lv_bipush (v := 30) hx hb dX9_two_23 rfl ?_
        refine rc_X9_125 X hW x3 (0 : Int32) (30 : Int32) ⟨⟨rfl, rfl⟩, Nat.le_of_ble_eq_true rfl, Nat.le_of_ble_eq_true rfl⟩ hl.1 (Nat.le_of_ble_eq_true rfl) dX9_two_25 ⟨Nat.zero_le _, Nat.zero_le _⟩ (fun H locs hW => ?_)
        refine lv_goto (tgt := 32) hx hb dX9_two_28 (by decide) ?_
        exact w_X9_two_32 X x1 x2 x3 σ (f_X9_wrongBy x3 (0 : Int32) (30 : Int32)) _ _ _ h hW (lv_sub hl [0, 1, 2, 3] rfl)
abbrev rmX9_gcd : Room := { frames := 0, cells := 0, slots := 0, locals := 0 }
def f_X9_gcd_6 : Nat → Int64 → Int64 → Option Int64
  | 0, _, _ => none
  | n + 1, x4, x6 => if (lg_cmp x6 (0 : Int64)) = 0 then some x4 else lb_chk (x6 != 0) (lb_let ((x4 - x4 / x6 * x6)) (fun v18 : Int64 => f_X9_gcd_6 n x6 v18))
set_option maxRecDepth 20000 in
set_option maxHeartbeats 4000000 in
theorem w_X9_gcd_6 {p : Program} {l : Launch} {e : Env} {s : State} {m : MethodId} {args : Array Value} {below : List Frame} {meth : Method} {c : Code} {G : lb_G} {σ : lb_Mem} {qr : Int64} (X : lb_C G p s m args meth c cX9_gcd 10 RX9 (some .long)) : ∀ (n : Nat) (x4 : Int64) (x6 : Int64) (H : Heap) (locs : List Loc) (ls : Array Slot), f_X9_gcd_6 n x4 x6 = some qr → lb_W G s σ H locs → lv_has ls 10 [(4, .long x4), (6, .long x6)] → W p l e rmX9_gcd s m args below meth c H locs 0 0 (MQ below (lb_QL G qr σ) args s 0 0 (lb_A G)) (F0 m 6 ls []) := by
  have hx := X.1
  have hb := X.2.1
  intro n
  induction n with
  | zero => intro x4 x6 H locs ls h hW hl; exact absurd h (fun z => by cases z)
  | succ n ih =>
    intro x4 x6 H locs ls h hW hl
    have h : (if (lg_cmp x6 (0 : Int64)) = 0 then some x4 else lb_chk (x6 != 0) (lb_let ((x4 - x4 / x6 * x6)) (fun v18 : Int64 => f_X9_gcd_6 n x6 v18))) = some qr := h
    refine lv_lload hx hb dX9_gcd_6 (lv_at hl 1 rfl) ?_
    refine lv_lconst (v := 0) hx hb dX9_gcd_8 rfl ?_
    refine W.lcmp hx hb dX9_gcd_9 ?_
    refine lv_if_eq (tgt := 31) hx hb dX9_gcd_10 (by decide) (fun c10 => ?_) (fun c10 => ?_)
    · have h := (if_pos c10).symm.trans h
      refine lv_lload hx hb dX9_gcd_31 (lv_at hl 0 rfl) ?_
      obtain rfl := Option.some.inj h
      exact lb_lret X hW dX9_gcd_33
    · have h := (if_neg c10).symm.trans h
      refine lv_lload hx hb dX9_gcd_13 (lv_at hl 0 rfl) ?_
      refine lv_lload hx hb dX9_gcd_15 (lv_at hl 1 rfl) ?_
      obtain ⟨z17, h⟩ := lb_chk_nzl h
      refine lv_lrem hx hb dX9_gcd_17 z17 ?_
      refine lv_topl (fun v18 e18 => ?_)
      have h := lb_letI e18 h
      refine lv_lstore (lv' := [(8, .long v18), (4, .long x4), (6, .long x6)]) hx hb dX9_gcd_18 hl (by decide) rfl (fun ls hl => ?_)
      refine lv_lload hx hb dX9_gcd_20 (lv_at hl 2 rfl) ?_
      refine lv_lstore (lv' := [(4, .long x6), (8, .long v18), (6, .long x6)]) hx hb dX9_gcd_22 hl (by decide) rfl (fun ls hl => ?_)
      refine lv_lload hx hb dX9_gcd_24 (lv_at hl 1 rfl) ?_
      refine lv_lstore (lv' := [(6, .long v18), (4, .long x6), (8, .long v18)]) hx hb dX9_gcd_26 hl (by decide) rfl (fun ls hl => ?_)
      refine lv_goto (tgt := 6) hx hb dX9_gcd_28 (by decide) ?_
      exact ih x6 v18 _ _ _ h hW (lv_sub hl [1, 0] rfl)
def f_X9_gcd (x0 : Int64) (x2 : Int64) : Option Int64 := f_X9_gcd_6 lb_N x0 x2
set_option maxRecDepth 20000 in
set_option maxHeartbeats 4000000 in
theorem m_X9_gcd (l : Launch) (G : lb_G) (σ : lb_Mem) (x0 : Int64) (x2 : Int64) (qr : Int64) (h : f_X9_gcd x0 x2 = some qr) : lb_M l yX9_gcd cX9_gcd 10 (some .long) rmX9_gcd [.long x0, .long x2] G σ (lb_QL G qr σ) := by
  refine lb_start RX9 (by decide +kernel) rfl (Nat.le_of_ble_eq_true rfl) (fun p e s m below meth c X hW ls hl => ?_)
  have hx := X.1
  have hb := X.2.1
  have hl : lv_has ls 10 [(0, .long x0), (2, .long x2)] := hl
  have h : (f_X9_gcd_6 lb_N x0 x2) = some qr := h
  skip
  refine lv_lload_n hx hb dX9_gcd_0 rfl (lv_at hl 0 rfl) ?_
  refine lv_lstore (lv' := [(4, .long x0), (0, .long x0), (2, .long x2)]) hx hb dX9_gcd_1 hl (by decide) rfl (fun ls hl => ?_)
  refine lv_lload_n hx hb dX9_gcd_3 rfl (lv_at hl 2 rfl) ?_
  refine lv_lstore (lv' := [(6, .long x2), (4, .long x0), (0, .long x0), (2, .long x2)]) hx hb dX9_gcd_4 hl (by decide) rfl (fun ls hl => ?_)
  exact w_X9_gcd_6 X lb_N x0 x2 _ _ _ h hW (lv_sub hl [1, 0] rfl)
theorem rc_X9_177 {p : Program} {l : Launch} {e : Env} {R : Room} {s : State} {m : MethodId} {args : Array Value} {below : List Frame} {meth : Method} {c : Code} {H : Heap} {locs : List Loc} {cells slots : Nat} {Q : State → Prop} {cc : ByteArray} {pc nL : Nat} {ls : Array Slot} {rest : List Value} {G : lb_G} {σ : lb_Mem} {ret : Option FieldType} (X : lb_C G p s m args meth c cc nL RX9 ret) (hW : lb_W G s σ H locs) {x0 : Int64} {x2 : Int64} {qr : Int64} (h : f_X9_gcd x0 x2 = some qr) (hR : lb_room rmX9_gcd R 10) (hls : ls.size = nL) (hrest : (rest.map fun v => v.category).sum ≤ 8) (d : decode cc pc = .ok (.invokestatic 177, 3)) (hcap : cells ≤ R.cells ∧ slots ≤ R.slots) (kk : ∀ (H1 : Heap) (locs1 : List Loc), lb_W G s σ H1 locs1 → W p l e R s m args below meth c H1 locs1 cells slots Q (F0 m (pc + 3) ls (.long qr :: rest))) : W p l e R s m args below meth c H locs cells slots Q (F0 m pc ls (.long x2 :: .long x0 :: rest)) :=
  lb_goL hW (lb_runS (As := [.long x0, .long x2]) X hW (m_X9_gcd l G σ x0 x2 qr h) (n := 2) ⟨qw_1082, qw_52, qw_1084, by decide +kernel⟩ hR qw_1083 rfl hls hrest d hcap) kk
abbrev rmX9_partOf : Room := { frames := 1, cells := 0, slots := 0, locals := 29 }
def f_X9_partOf_20 (x0 : Int64) (x2 : Int64) (y0 : Int64) : Option Int64 := (f_X9_gcd x0 x2).bind (fun q22 => lb_chk (q22 != 0) (some (y0 / q22)))
set_option maxRecDepth 20000 in
set_option maxHeartbeats 4000000 in
theorem w_X9_partOf_20 {p : Program} {l : Launch} {e : Env} {s : State} {m : MethodId} {args : Array Value} {below : List Frame} {meth : Method} {c : Code} {G : lb_G} {σ : lb_Mem} {qr : Int64} (X : lb_C G p s m args meth c cX9_partOf 5 RX9 (some .long)) : ∀ (x0 : Int64) (x2 : Int64) (y0 : Int64) (H : Heap) (locs : List Loc) (ls : Array Slot), f_X9_partOf_20 x0 x2 y0 = some qr → lb_W G s σ H locs → lv_has ls 5 [(0, .long x0), (2, .long x2)] → W p l e rmX9_partOf s m args below meth c H locs 0 0 (MQ below (lb_QL G qr σ) args s 0 0 (lb_A G)) (F0 m 20 ls [.long y0]) := by
  have hx := X.1
  have hb := X.2.1
  intro x0 x2 y0 H locs ls h hW hl
  have h : ((f_X9_gcd x0 x2).bind (fun q22 => lb_chk (q22 != 0) (some (y0 / q22)))) = some qr := h
  refine lv_lload_n hx hb dX9_partOf_20 rfl (lv_at hl 0 rfl) ?_
  refine lv_lload_n hx hb dX9_partOf_21 rfl (lv_at hl 1 rfl) ?_
  obtain ⟨q22, e22, h⟩ := lb_bind h
  refine rc_X9_177 X hW e22 ⟨⟨rfl, rfl⟩, Nat.le_of_ble_eq_true rfl, Nat.le_of_ble_eq_true rfl⟩ hl.1 (Nat.le_of_ble_eq_true rfl) dX9_partOf_22 ⟨Nat.zero_le _, Nat.zero_le _⟩ (fun H locs hW => ?_)
  obtain ⟨z25, h⟩ := lb_chk_nzl h
  refine lv_ldiv hx hb dX9_partOf_25 z25 ?_
  obtain rfl := Option.some.inj h
  exact lb_lret X hW dX9_partOf_26
def f_X9_partOf (x0 : Int64) (x2 : Int64) (x4 : Int32) : Option Int64 := if (lg_cmp x0 (0 : Int64)) = 0 then some (x4.toInt64) else if x4 = 0 then f_X9_partOf_20 x0 x2 x0 else f_X9_partOf_20 x0 x2 x2
set_option maxRecDepth 20000 in
set_option maxHeartbeats 4000000 in
theorem m_X9_partOf (l : Launch) (G : lb_G) (σ : lb_Mem) (x0 : Int64) (x2 : Int64) (x4 : Int32) (qr : Int64) (h : f_X9_partOf x0 x2 x4 = some qr) : lb_M l yX9_partOf cX9_partOf 5 (some .long) rmX9_partOf [.long x0, .long x2, .int x4] G σ (lb_QL G qr σ) := by
  refine lb_start RX9 (by decide +kernel) rfl (Nat.le_of_ble_eq_true rfl) (fun p e s m below meth c X hW ls hl => ?_)
  have hx := X.1
  have hb := X.2.1
  have hl : lv_has ls 5 [(0, .long x0), (2, .long x2), (4, .int x4)] := hl
  have h : (if (lg_cmp x0 (0 : Int64)) = 0 then some (x4.toInt64) else if x4 = 0 then f_X9_partOf_20 x0 x2 x0 else f_X9_partOf_20 x0 x2 x2) = some qr := h
  skip
  refine lv_lload_n hx hb dX9_partOf_0 rfl (lv_at hl 0 rfl) ?_
  refine lv_lconst (v := 0) hx hb dX9_partOf_1 rfl ?_
  refine W.lcmp hx hb dX9_partOf_2 ?_
  refine lv_if_ne (tgt := 10) hx hb dX9_partOf_3 (by decide) (fun c3 => ?_) (fun c3 => ?_)
  · have h := (if_neg c3).symm.trans h
    refine lv_iload hx hb dX9_partOf_10 (lv_at hl 2 rfl) ?_
    refine lv_if_ne (tgt := 19) hx hb dX9_partOf_12 (by decide) (fun c12 => ?_) (fun c12 => ?_)
    · have h := (if_neg c12).symm.trans h
      refine lv_lload_n hx hb dX9_partOf_19 rfl (lv_at hl 1 rfl) ?_
      exact w_X9_partOf_20 X x0 x2 x2 _ _ _ h hW (lv_sub hl [0, 1] rfl)
    · have h := (if_pos c12).symm.trans h
      refine lv_lload_n hx hb dX9_partOf_15 rfl (lv_at hl 0 rfl) ?_
      refine lv_goto (tgt := 20) hx hb dX9_partOf_16 (by decide) ?_
      exact w_X9_partOf_20 X x0 x2 x0 _ _ _ h hW (lv_sub hl [0, 1] rfl)
  · have h := (if_pos c3).symm.trans h
    refine lv_iload hx hb dX9_partOf_6 (lv_at hl 2 rfl) ?_
    refine lv_i2l (v := x4.toInt64) hx hb dX9_partOf_8 rfl ?_
    obtain rfl := Option.some.inj h
    exact lb_lret X hW dX9_partOf_9
abbrev rmX9_errsIn : Room := { frames := 1, cells := 0, slots := 0, locals := 21 }
def f_X9_errsIn_2 (k0 : Nat) : Nat → Int32 → lb_Mem → Option lb_Mem
  | 0, _, _ => none
  | n + 1, x1, σ => if (σ k0 (0 : Int32).toNatClampNeg) ≤ x1 then some σ else lb_chk (lb_ix (f_X9_ofT x1 (3 : Int32)) 61) (if (σ k0 (f_X9_ofT x1 (3 : Int32)).toNatClampNeg) = (6 : Int32) then f_X9_errsIn_2 k0 n (x1 + 1) σ else lb_chk (lb_ix (f_X9_ofT x1 (3 : Int32)) 61) (lb_chk (lb_ix (f_X9_ofT x1 (3 : Int32)) 61) (lb_let (lb_sto σ k0 (f_X9_ofT x1 (3 : Int32)).toNatClampNeg (((σ k0 (f_X9_ofT x1 (3 : Int32)).toNatClampNeg) + (1 : Int32)) - ((σ k0 (f_X9_ofT x1 (3 : Int32)).toNatClampNeg) + (1 : Int32)) / (6 : Int32) * (6 : Int32))) (fun s39 : lb_Mem => f_X9_errsIn_2 k0 n (x1 + 1) s39))))
set_option maxRecDepth 20000 in
set_option maxHeartbeats 4000000 in
theorem w_X9_errsIn_2 {p : Program} {l : Launch} {e : Env} {s : State} {m : MethodId} {args : Array Value} {below : List Frame} {meth : Method} {c : Code} {G : lb_G} {k0 : Nat} {qr : lb_Mem} (X : lb_C G p s m args meth c cX9_errsIn 2 RX9 none) (hk0 : lb_ar k0 = 60 + 1) : ∀ (n : Nat) (x1 : Int32) (σ : lb_Mem) (H : Heap) (locs : List Loc) (ls : Array Slot), f_X9_errsIn_2 k0 n x1 σ = some qr → lb_W G s σ H locs → lv_has ls 2 [(0, .ref (lb_ad G k0)), (1, .int x1)] → W p l e rmX9_errsIn s m args below meth c H locs 0 0 (MQ below (lb_QV G qr) args s 0 0 (lb_A G)) (F0 m 2 ls []) := by
  have hx := X.1
  have hb := X.2.1
  intro n
  induction n with
  | zero => intro x1 σ H locs ls h hW hl; exact absurd h (fun z => by cases z)
  | succ n ih =>
    intro x1 σ H locs ls h hW hl
    have h : (if (σ k0 (0 : Int32).toNatClampNeg) ≤ x1 then some σ else lb_chk (lb_ix (f_X9_ofT x1 (3 : Int32)) 61) (if (σ k0 (f_X9_ofT x1 (3 : Int32)).toNatClampNeg) = (6 : Int32) then f_X9_errsIn_2 k0 n (x1 + 1) σ else lb_chk (lb_ix (f_X9_ofT x1 (3 : Int32)) 61) (lb_chk (lb_ix (f_X9_ofT x1 (3 : Int32)) 61) (lb_let (lb_sto σ k0 (f_X9_ofT x1 (3 : Int32)).toNatClampNeg (((σ k0 (f_X9_ofT x1 (3 : Int32)).toNatClampNeg) + (1 : Int32)) - ((σ k0 (f_X9_ofT x1 (3 : Int32)).toNatClampNeg) + (1 : Int32)) / (6 : Int32) * (6 : Int32))) (fun s39 : lb_Mem => f_X9_errsIn_2 k0 n (x1 + 1) s39))))) = some qr := h
    refine lv_iload_n hx hb dX9_errsIn_2 rfl (lv_at hl 1 rfl) ?_
    refine lv_aload_n hx hb dX9_errsIn_3 rfl (lv_at hl 0 rfl) ?_
    refine lv_iconst (v := 0) hx hb dX9_errsIn_4 rfl ?_
    refine lb_ild X hW hk0 (lb_inC rfl) dX9_errsIn_5 ?_
    refine lv_icmp_ge (tgt := 46) hx hb dX9_errsIn_6 (by decide) (fun c6 => ?_) (fun c6 => ?_)
    · have h := (if_pos c6).symm.trans h
      obtain rfl := Option.some.inj h
      exact lb_vret X hW dX9_errsIn_46
    · have h := (if_neg c6).symm.trans h
      refine lv_aload_n hx hb dX9_errsIn_9 rfl (lv_at hl 0 rfl) ?_
      refine lv_iload_n hx hb dX9_errsIn_10 rfl (lv_at hl 1 rfl) ?_
      refine lv_iconst (v := 3) hx hb dX9_errsIn_11 rfl ?_
      refine rc_X9_45 X hW x1 (3 : Int32) ⟨⟨rfl, rfl⟩, Nat.le_of_ble_eq_true rfl, Nat.le_of_ble_eq_true rfl⟩ hl.1 (Nat.le_of_ble_eq_true rfl) dX9_errsIn_12 ⟨Nat.zero_le _, Nat.zero_le _⟩ (fun H locs hW => ?_)
      obtain ⟨i15, h⟩ := lb_chk_in h
      refine lb_ild X hW hk0 i15 dX9_errsIn_15 ?_
      refine lv_bipush (v := 6) hx hb dX9_errsIn_16 rfl ?_
      refine lv_icmp_eq (tgt := 40) hx hb dX9_errsIn_18 (by decide) (fun c18 => ?_) (fun c18 => ?_)
      · have h := (if_pos c18).symm.trans h
        refine lv_iinc (v := (x1 + 1)) (lv' := [(1, .int (x1 + 1)), (0, .ref (lb_ad G k0))]) hx hb dX9_errsIn_40 hl (k := 1) rfl rfl (by decide) rfl (fun ls hl => ?_)
        refine lv_goto (tgt := 2) hx hb dX9_errsIn_43 (by decide) ?_
        exact ih (x1 + 1) σ _ _ _ h hW (lv_sub hl [1, 0] rfl)
      · have h := (if_neg c18).symm.trans h
        refine lv_aload_n hx hb dX9_errsIn_21 rfl (lv_at hl 0 rfl) ?_
        refine lv_iload_n hx hb dX9_errsIn_22 rfl (lv_at hl 1 rfl) ?_
        refine lv_iconst (v := 3) hx hb dX9_errsIn_23 rfl ?_
        refine rc_X9_45 X hW x1 (3 : Int32) ⟨⟨rfl, rfl⟩, Nat.le_of_ble_eq_true rfl, Nat.le_of_ble_eq_true rfl⟩ hl.1 (Nat.le_of_ble_eq_true rfl) dX9_errsIn_24 ⟨Nat.zero_le _, Nat.zero_le _⟩ (fun H locs hW => ?_)
        refine lv_aload_n hx hb dX9_errsIn_27 rfl (lv_at hl 0 rfl) ?_
        refine lv_iload_n hx hb dX9_errsIn_28 rfl (lv_at hl 1 rfl) ?_
        refine lv_iconst (v := 3) hx hb dX9_errsIn_29 rfl ?_
        refine rc_X9_45 X hW x1 (3 : Int32) ⟨⟨rfl, rfl⟩, Nat.le_of_ble_eq_true rfl, Nat.le_of_ble_eq_true rfl⟩ hl.1 (Nat.le_of_ble_eq_true rfl) dX9_errsIn_30 ⟨Nat.zero_le _, Nat.zero_le _⟩ (fun H locs hW => ?_)
        obtain ⟨i33, h⟩ := lb_chk_in h
        refine lb_ild X hW hk0 i33 dX9_errsIn_33 ?_
        refine lv_iconst (v := 1) hx hb dX9_errsIn_34 rfl ?_
        refine lv_iadd hx hb dX9_errsIn_35 ?_
        refine lv_bipush (v := 6) hx hb dX9_errsIn_36 rfl ?_
        refine lv_irem hx hb dX9_errsIn_38 (by decide) ?_
        obtain ⟨i39, h⟩ := lb_chk_in h
        refine lb_ist X hW hk0 i39 dX9_errsIn_39 (fun H locs hW => ?_)
        obtain ⟨s39, e39⟩ : ∃ z, z = lb_sto σ k0 (f_X9_ofT x1 (3 : Int32)).toNatClampNeg (((σ k0 (f_X9_ofT x1 (3 : Int32)).toNatClampNeg) + (1 : Int32)) - ((σ k0 (f_X9_ofT x1 (3 : Int32)).toNatClampNeg) + (1 : Int32)) / (6 : Int32) * (6 : Int32)) := ⟨_, rfl⟩
        rw [← e39] at hW
        have h := lb_letI e39 h
        refine lv_iinc (v := (x1 + 1)) (lv' := [(1, .int (x1 + 1)), (0, .ref (lb_ad G k0))]) hx hb dX9_errsIn_40 hl (k := 1) rfl rfl (by decide) rfl (fun ls hl => ?_)
        refine lv_goto (tgt := 2) hx hb dX9_errsIn_43 (by decide) ?_
        exact ih (x1 + 1) s39 _ _ _ h hW (lv_sub hl [1, 0] rfl)
def f_X9_errsIn (k0 : Nat) (σ : lb_Mem) : Option lb_Mem := f_X9_errsIn_2 k0 lb_N (0 : Int32) σ
set_option maxRecDepth 20000 in
set_option maxHeartbeats 4000000 in
theorem m_X9_errsIn (l : Launch) (G : lb_G) (σ : lb_Mem) {k0 : Nat} (hk0 : lb_ar k0 = 60 + 1) (qr : lb_Mem) (h : f_X9_errsIn k0 σ = some qr) : lb_M l yX9_errsIn cX9_errsIn 2 none rmX9_errsIn [.ref (lb_ad G k0)] G σ (lb_QV G qr) := by
  refine lb_start RX9 (by decide +kernel) rfl (Nat.le_of_ble_eq_true rfl) (fun p e s m below meth c X hW ls hl => ?_)
  have hx := X.1
  have hb := X.2.1
  have hl : lv_has ls 2 [(0, .ref (lb_ad G k0))] := hl
  have h : (f_X9_errsIn_2 k0 lb_N (0 : Int32) σ) = some qr := h
  skip
  refine lv_iconst (v := 0) hx hb dX9_errsIn_0 rfl ?_
  refine lv_istore_n (lv' := [(1, .int (0 : Int32)), (0, .ref (lb_ad G k0))]) hx hb dX9_errsIn_1 rfl hl (by decide) rfl (fun ls hl => ?_)
  exact w_X9_errsIn_2 X hk0 lb_N (0 : Int32) σ _ _ _ h hW (lv_sub hl [1, 0] rfl)
