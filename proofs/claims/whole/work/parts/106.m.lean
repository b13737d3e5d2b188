abbrev rmX8_shelf : Room := { frames := 2, cells := 0, slots := 0, locals := 42 }
def f_X8_shelf_45 (kc35 : Int32 → Int32 → Int32 → Int32 → lb_Mem → Option (Int32 × lb_Mem)) : Nat → Int32 → Int32 → Int32 → Int32 → Int32 → lb_Mem → Option (Int32 × lb_Mem)
  | 0, _, _, _, _, _, _ => none
  | n + 1, x1, x2, x4, x5, x6, σ => if (σ 1 9) ≤ x6 then kc35 x1 x2 x4 (x5 + 1) σ else lb_chk (lb_ix x6 8) (if (σ 14 x6.toNatClampNeg) = x1 then lb_chk (lb_ix x6 8) (if (σ 12 x6.toNatClampNeg) = x5 then if x4 = x2 then some (x6, σ) else f_X8_shelf_45 kc35 n x1 x2 (x4 + 1) x5 (x6 + 1) σ else f_X8_shelf_45 kc35 n x1 x2 x4 x5 (x6 + 1) σ) else f_X8_shelf_45 kc35 n x1 x2 x4 x5 (x6 + 1) σ)
set_option maxRecDepth 20000 in
set_option maxHeartbeats 4000000 in
theorem w_X8_shelf_45 {p : Program} {l : Launch} {e : Env} {s : State} {m : MethodId} {args : Array Value} {below : List Frame} {meth : Method} {c : Code} {G : lb_G} {qr : (Int32 × lb_Mem)} (X : lb_C G p s m args meth c cX8_shelf 7 RX8 (some .int)) {kc35 : Int32 → Int32 → Int32 → Int32 → lb_Mem → Option (Int32 × lb_Mem)} (hc35 : ∀ (x1 : Int32) (x2 : Int32) (x4 : Int32) (x5 : Int32) (σ : lb_Mem) (H : Heap) (locs : List Loc) (ls : Array Slot), kc35 x1 x2 x4 x5 σ = some qr → lb_W G s σ H locs → lv_has ls 7 [(0, .ref (lb_ad G 0)), (1, .int x1), (2, .int x2), (4, .int x4), (5, .int x5)] → W p l e rmX8_shelf s m args below meth c H locs 0 0 (MQ below (lb_QI G qr.1 qr.2) args s 0 0 (lb_A G)) (F0 m 35 ls [])) : ∀ (n : Nat) (x1 : Int32) (x2 : Int32) (x4 : Int32) (x5 : Int32) (x6 : Int32) (σ : lb_Mem) (H : Heap) (locs : List Loc) (ls : Array Slot), f_X8_shelf_45 kc35 n x1 x2 x4 x5 x6 σ = some qr → lb_W G s σ H locs → lv_has ls 7 [(0, .ref (lb_ad G 0)), (1, .int x1), (2, .int x2), (4, .int x4), (5, .int x5), (6, .int x6)] → W p l e rmX8_shelf s m args below meth c H locs 0 0 (MQ below (lb_QI G qr.1 qr.2) args s 0 0 (lb_A G)) (F0 m 45 ls []) := by
  have hx := X.1
  have hb := X.2.1
  intro n
  induction n with
  | zero => intro x1 x2 x4 x5 x6 σ H locs ls h hW hl; exact absurd h (fun z => by cases z)
  | succ n ih =>
    intro x1 x2 x4 x5 x6 σ H locs ls h hW hl
    have h : (if (σ 1 9) ≤ x6 then kc35 x1 x2 x4 (x5 + 1) σ else lb_chk (lb_ix x6 8) (if (σ 14 x6.toNatClampNeg) = x1 then lb_chk (lb_ix x6 8) (if (σ 12 x6.toNatClampNeg) = x5 then if x4 = x2 then some (x6, σ) else f_X8_shelf_45 kc35 n x1 x2 (x4 + 1) x5 (x6 + 1) σ else f_X8_shelf_45 kc35 n x1 x2 x4 x5 (x6 + 1) σ) else f_X8_shelf_45 kc35 n x1 x2 x4 x5 (x6 + 1) σ)) = some qr := h
    refine lv_iload hx hb dX8_shelf_45 (lv_at hl 5 rfl) ?_
    refine lv_aload_n hx hb dX8_shelf_47 rfl (lv_at hl 0 rfl) ?_
    refine rg_X8_10 X hW dX8_shelf_48 ?_
    refine rg_X8_165 X hW lb_V1 dX8_shelf_51 ?_
    refine lv_icmp_ge (tgt := 104) hx hb dX8_shelf_54 (by decide) (fun c54 => ?_) (fun c54 => ?_)
    · have h := (if_pos c54).symm.trans h
      refine lv_iinc (v := (x5 + 1)) (lv' := [(5, .int (x5 + 1)), (0, .ref (lb_ad G 0)), (1, .int x1), (2, .int x2), (4, .int x4), (6, .int x6)]) hx hb dX8_shelf_104 hl (k := 4) rfl rfl (by decide) rfl (fun ls hl => ?_)
      refine lv_goto (tgt := 35) hx hb dX8_shelf_107 (by decide) ?_
      exact hc35 x1 x2 x4 (x5 + 1) σ _ _ _ h hW (lv_sub hl [1, 2, 3, 4, 0] rfl)
    · have h := (if_neg c54).symm.trans h
      refine lv_aload_n hx hb dX8_shelf_57 rfl (lv_at hl 0 rfl) ?_
      refine rg_X8_10 X hW dX8_shelf_58 ?_
      refine rg_X8_104 (k := 14) X hW lb_V1 rfl dX8_shelf_61 ?_
      refine lv_iload hx hb dX8_shelf_64 (lv_at hl 5 rfl) ?_
      obtain ⟨i66, h⟩ := lb_chk_in h
      refine lb_ild X hW (show lb_ar 14 = 7 + 1 from rfl) i66 dX8_shelf_66 ?_
      refine lv_iload_n hx hb dX8_shelf_67 rfl (lv_at hl 1 rfl) ?_
      refine lv_icmp_ne (tgt := 98) hx hb dX8_shelf_68 (by decide) (fun c68 => ?_) (fun c68 => ?_)
      · have h := (if_neg c68).symm.trans h
        refine lv_iinc (v := (x6 + 1)) (lv' := [(6, .int (x6 + 1)), (0, .ref (lb_ad G 0)), (1, .int x1), (2, .int x2), (4, .int x4), (5, .int x5)]) hx hb dX8_shelf_98 hl (k := 5) rfl rfl (by decide) rfl (fun ls hl => ?_)
        refine lv_goto (tgt := 45) hx hb dX8_shelf_101 (by decide) ?_
        exact ih x1 x2 x4 x5 (x6 + 1) σ _ _ _ h hW (lv_sub hl [1, 2, 3, 4, 5, 0] rfl)
      · have h := (if_pos c68).symm.trans h
        refine lv_aload_n hx hb dX8_shelf_71 rfl (lv_at hl 0 rfl) ?_
        refine rg_X8_10 X hW dX8_shelf_72 ?_
        refine rg_X8_98 (k := 12) X hW lb_V1 rfl dX8_shelf_75 ?_
        refine lv_iload hx hb dX8_shelf_78 (lv_at hl 5 rfl) ?_
        obtain ⟨i80, h⟩ := lb_chk_in h
        refine lb_ild X hW (show lb_ar 12 = 7 + 1 from rfl) i80 dX8_shelf_80 ?_
        refine lv_iload hx hb dX8_shelf_81 (lv_at hl 4 rfl) ?_
        refine lv_icmp_ne (tgt := 98) hx hb dX8_shelf_83 (by decide) (fun c83 => ?_) (fun c83 => ?_)
        · have h := (if_neg c83).symm.trans h
          refine lv_iinc (v := (x6 + 1)) (lv' := [(6, .int (x6 + 1)), (0, .ref (lb_ad G 0)), (1, .int x1), (2, .int x2), (4, .int x4), (5, .int x5)]) hx hb dX8_shelf_98 hl (k := 5) rfl rfl (by decide) rfl (fun ls hl => ?_)
          refine lv_goto (tgt := 45) hx hb dX8_shelf_101 (by decide) ?_
          exact ih x1 x2 x4 x5 (x6 + 1) σ _ _ _ h hW (lv_sub hl [1, 2, 3, 4, 5, 0] rfl)
        · have h := (if_pos c83).symm.trans h
          refine lv_iload hx hb dX8_shelf_86 (lv_at hl 3 rfl) ?_
          refine lv_iload_n hx hb dX8_shelf_88 rfl (lv_at hl 2 rfl) ?_
          refine lv_icmp_ne (tgt := 95) hx hb dX8_shelf_89 (by decide) (fun c89 => ?_) (fun c89 => ?_)
          · have h := (if_neg c89).symm.trans h
            refine lv_iinc (v := (x4 + 1)) (lv' := [(4, .int (x4 + 1)), (0, .ref (lb_ad G 0)), (1, .int x1), (2, .int x2), (5, .int x5), (6, .int x6)]) hx hb dX8_shelf_95 hl (k := 3) rfl rfl (by decide) rfl (fun ls hl => ?_)
            refine lv_iinc (v := (x6 + 1)) (lv' := [(6, .int (x6 + 1)), (4, .int (x4 + 1)), (0, .ref (lb_ad G 0)), (1, .int x1), (2, .int x2), (5, .int x5)]) hx hb dX8_shelf_98 hl (k := 5) rfl rfl (by decide) rfl (fun ls hl => ?_)
            refine lv_goto (tgt := 45) hx hb dX8_shelf_101 (by decide) ?_
            exact ih x1 x2 (x4 + 1) x5 (x6 + 1) σ _ _ _ h hW (lv_sub hl [2, 3, 4, 1, 5, 0] rfl)
          · have h := (if_pos c89).symm.trans h
            refine lv_iload hx hb dX8_shelf_92 (lv_at hl 5 rfl) ?_
            obtain rfl := Option.some.inj h
            exact lb_iret X hW dX8_shelf_94
def f_X8_shelf_35 : Nat → Int32 → Int32 → Int32 → Int32 → lb_Mem → Option (Int32 × lb_Mem)
  | 0, _, _, _, _, _ => none
  | n + 1, x1, x2, x4, x5, σ => if (6 : Int32) < x5 then some ((-9 : Int32), σ) else f_X8_shelf_45 (fun (x1 : Int32) (x2 : Int32) (x4 : Int32) (x5 : Int32) (σ : lb_Mem) => f_X8_shelf_35 n x1 x2 x4 x5 σ) lb_N x1 x2 x4 x5 (0 : Int32) σ
set_option maxRecDepth 20000 in
set_option maxHeartbeats 4000000 in
theorem w_X8_shelf_35 {p : Program} {l : Launch} {e : Env} {s : State} {m : MethodId} {args : Array Value} {below : List Frame} {meth : Method} {c : Code} {G : lb_G} {qr : (Int32 × lb_Mem)} (X : lb_C G p s m args meth c cX8_shelf 7 RX8 (some .int)) : ∀ (n : Nat) (x1 : Int32) (x2 : Int32) (x4 : Int32) (x5 : Int32) (σ : lb_Mem) (H : Heap) (locs : List Loc) (ls : Array Slot), f_X8_shelf_35 n x1 x2 x4 x5 σ = some qr → lb_W G s σ H locs → lv_has ls 7 [(0, .ref (lb_ad G 0)), (1, .int x1), (2, .int x2), (4, .int x4), (5, .int x5)] → W p l e rmX8_shelf s m args below meth c H locs 0 0 (MQ below (lb_QI G qr.1 qr.2) args s 0 0 (lb_A G)) (F0 m 35 ls []) := by
  have hx := X.1
  have hb := X.2.1
  intro n
  induction n with
  | zero => intro x1 x2 x4 x5 σ H locs ls h hW hl; exact absurd h (fun z => by cases z)
  | succ n ih =>
    intro x1 x2 x4 x5 σ H locs ls h hW hl
    have h : (if (6 : Int32) < x5 then some ((-9 : Int32), σ) else f_X8_shelf_45 (fun (x1 : Int32) (x2 : Int32) (x4 : Int32) (x5 : Int32) (σ : lb_Mem) => f_X8_shelf_35 n x1 x2 x4 x5 σ) lb_N x1 x2 x4 x5 (0 : Int32) σ) = some qr := h
    refine lv_iload hx hb dX8_shelf_35 (lv_at hl 4 rfl) ?_
    refine lv_bipush (v := 6) hx hb dX8_shelf_37 rfl ?_
    refine lv_icmp_gt (tgt := 110) hx hb dX8_shelf_39 (by decide) (fun c39 => ?_) (fun c39 => ?_)
    · have h := (if_pos c39).symm.trans h
      refine lv_bipush (v := -9) hx hb dX8_shelf_110 rfl ?_
      obtain rfl := Option.some.inj h
      exact lb_iret X hW dX8_shelf_112
    · have h := (if_neg c39).symm.trans h
      refine lv_iconst (v := 0) hx hb dX8_shelf_42 rfl ?_
      refine lv_istore (lv' := [(6, .int (0 : Int32)), (0, .ref (lb_ad G 0)), (1, .int x1), (2, .int x2), (4, .int x4), (5, .int x5)]) hx hb dX8_shelf_43 hl (by decide) rfl (fun ls hl => ?_)
      exact w_X8_shelf_45 X ih lb_N x1 x2 x4 x5 (0 : Int32) σ _ _ _ h hW (lv_sub hl [1, 2, 3, 4, 5, 0] rfl)
def f_X8_shelf_15 (x1 : Int32) (x2 : Int32) (σ : lb_Mem) (y0 : Int32) (y1 : Int32) : Option (Int32 × lb_Mem) := lb_let ((f_X8_first y0 y1)) (fun v18 : Int32 => if v18 = 0 then f_X8_shelf_35 lb_N x1 x2 (0 : Int32) (0 : Int32) σ else (f_X8_refuse v18 σ).bind (fun q25 => some (q25.1, q25.2)))
set_option maxRecDepth 20000 in
set_option maxHeartbeats 4000000 in
theorem w_X8_shelf_15 {p : Program} {l : Launch} {e : Env} {s : State} {m : MethodId} {args : Array Value} {below : List Frame} {meth : Method} {c : Code} {G : lb_G} {qr : (Int32 × lb_Mem)} (X : lb_C G p s m args meth c cX8_shelf 7 RX8 (some .int)) : ∀ (x1 : Int32) (x2 : Int32) (σ : lb_Mem) (y0 : Int32) (y1 : Int32) (H : Heap) (locs : List Loc) (ls : Array Slot), f_X8_shelf_15 x1 x2 σ y0 y1 = some qr → lb_W G s σ H locs → lv_has ls 7 [(0, .ref (lb_ad G 0)), (1, .int x1), (2, .int x2)] → W p l e rmX8_shelf s m args below meth c H locs 0 0 (MQ below (lb_QI G qr.1 qr.2) args s 0 0 (lb_A G)) (F0 m 15 ls [.int y1, .int y0]) := by
  have hx := X.1
  have hb := X.2.1
  intro x1 x2 σ y0 y1 H locs ls h hW hl
  have h : (lb_let ((f_X8_first y0 y1)) (fun v18 : Int32 => if v18 = 0 then f_X8_shelf_35 lb_N x1 x2 (0 : Int32) (0 : Int32) σ else (f_X8_refuse v18 σ).bind (fun q25 => some (q25.1, q25.2)))) = some qr := h
  refine rc_X8_51 X hW y0 y1 ⟨⟨rfl, rfl⟩, Nat.le_of_ble_eq_true rfl, Nat.le_of_ble_eq_true rfl⟩ hl.1 (Nat.le_of_ble_eq_true rfl) dX8_shelf_15 ⟨Nat.zero_le _, Nat.zero_le _⟩ (fun H locs hW => ?_)
  refine lv_topi (fun v18 e18 => ?_)
  have h := lb_letI e18 h
  refine lv_istore_n (lv' := [(3, .int v18), (0, .ref (lb_ad G 0)), (1, .int x1), (2, .int x2)]) hx hb dX8_shelf_18 rfl hl (by decide) rfl (fun ls hl => ?_)
  refine lv_iload_n hx hb dX8_shelf_19 rfl (lv_at hl 0 rfl) ?_
  refine lv_if_eq (tgt := 29) hx hb dX8_shelf_20 (by decide) (fun c20 => ?_) (fun c20 => ?_)
  · have h := (if_pos c20).symm.trans h
    refine lv_iconst (v := 0) hx hb dX8_shelf_29 rfl ?_
    refine lv_istore (lv' := [(4, .int (0 : Int32)), (3, .int v18), (0, .ref (lb_ad G 0)), (1, .int x1), (2, .int x2)]) hx hb dX8_shelf_30 hl (by decide) rfl (fun ls hl => ?_)
    refine lv_iconst (v := 0) hx hb dX8_shelf_32 rfl ?_
    refine lv_istore (lv' := [(5, .int (0 : Int32)), (4, .int (0 : Int32)), (3, .int v18), (0, .ref (lb_ad G 0)), (1, .int x1), (2, .int x2)]) hx hb dX8_shelf_33 hl (by decide) rfl (fun ls hl => ?_)
    exact w_X8_shelf_35 X lb_N x1 x2 (0 : Int32) (0 : Int32) σ _ _ _ h hW (lv_sub hl [3, 4, 5, 1, 0] rfl)
  · have h := (if_neg c20).symm.trans h
    refine lv_aload_n hx hb dX8_shelf_23 rfl (lv_at hl 1 rfl) ?_
    refine lv_iload_n hx hb dX8_shelf_24 rfl (lv_at hl 0 rfl) ?_
    obtain ⟨q25, e25, h⟩ := lb_bind h
    refine rc_X8_55 X hW e25 ⟨⟨rfl, rfl⟩, Nat.le_of_ble_eq_true rfl, Nat.le_of_ble_eq_true rfl⟩ hl.1 (Nat.le_of_ble_eq_true rfl) dX8_shelf_25 ⟨Nat.zero_le _, Nat.zero_le _⟩ (fun H locs hW => ?_)
    obtain rfl := Option.some.inj h
    exact lb_iret X hW dX8_shelf_28
def f_X8_shelf (x1 : Int32) (x2 : Int32) (σ : lb_Mem) : Option (Int32 × lb_Mem) := if 0 ≤ x2 then f_X8_shelf_15 x1 x2 σ (f_X8_personThere σ x1) (0 : Int32) else f_X8_shelf_15 x1 x2 σ (f_X8_personThere σ x1) (-4 : Int32)
set_option maxRecDepth 20000 in
set_option maxHeartbeats 4000000 in
theorem m_X8_shelf (l : Launch) (G : lb_G) (σ : lb_Mem) (x1 : Int32) (x2 : Int32) (qr : (Int32 × lb_Mem)) (h : f_X8_shelf x1 x2 σ = some qr) : lb_M l yX8_shelf cX8_shelf 7 (some .int) rmX8_shelf [.ref (lb_ad G 0), .int x1, .int x2] G σ (lb_QI G qr.1 qr.2) := by
  refine lb_start RX8 (by decide +kernel) rfl (Nat.le_of_ble_eq_true rfl) (fun p e s m below meth c X hW ls hl => ?_)
  have hx := X.1
  have hb := X.2.1
  have hl : lv_has ls 7 [(0, .ref (lb_ad G 0)), (1, .int x1), (2, .int x2)] := hl
  have h : (if 0 ≤ x2 then f_X8_shelf_15 x1 x2 σ (f_X8_personThere σ x1) (0 : Int32) else f_X8_shelf_15 x1 x2 σ (f_X8_personThere σ x1) (-4 : Int32)) = some qr := h
  skip
  refine lv_aload_n hx hb dX8_shelf_0 rfl (lv_at hl 0 rfl) ?_
  refine lv_iload_n hx hb dX8_shelf_1 rfl (lv_at hl 1 rfl) ?_
  refine rc_X8_107 X hW x1 ⟨⟨rfl, rfl⟩, Nat.le_of_ble_eq_true rfl, Nat.le_of_ble_eq_true rfl⟩ hl.1 (Nat.le_of_ble_eq_true rfl) dX8_shelf_2 ⟨Nat.zero_le _, Nat.zero_le _⟩ (fun H locs hW => ?_)
  refine lv_iload_n hx hb dX8_shelf_5 rfl (lv_at hl 2 rfl) ?_
  refine lv_if_ge (tgt := 14) hx hb dX8_shelf_6 (by decide) (fun c6 => ?_) (fun c6 => ?_)
  · have h := (if_pos c6).symm.trans h
    refine lv_iconst (v := 0) hx hb dX8_shelf_14 rfl ?_
    exact w_X8_shelf_15 X x1 x2 σ (f_X8_personThere σ x1) (0 : Int32) _ _ _ h hW (lv_sub hl [0, 1, 2] rfl)
  · have h := (if_neg c6).symm.trans h
    refine lv_bipush (v := -4) hx hb dX8_shelf_9 rfl ?_
    refine lv_goto (tgt := 15) hx hb dX8_shelf_11 (by decide) ?_
    exact w_X8_shelf_15 X x1 x2 σ (f_X8_personThere σ x1) (-4 : Int32) _ _ _ h hW (lv_sub hl [0, 1, 2] rfl)
theorem rc_X8_181 {p : Program} {l : Launch} {e : Env} {R : Room} {s : State} {m : MethodId} {args : Array Value} {below : List Frame} {meth : Method} {c : Code} {H : Heap} {locs : List Loc} {cells slots : Nat} {Q : State → Prop} {cc : ByteArray} {pc nL : Nat} {ls : Array Slot} {rest : List Value} {G : lb_G} {σ : lb_Mem} {ret : Option FieldType} (X : lb_C G p s m args meth c cc nL RX8 ret) (hW : lb_W G s σ H locs) {b0 : Nat} (hb0 : lb_V b0) {qr : Int32} (h : f_X7_sortsHeld σ b0 = some qr) (hR : lb_room rmX7_sortsHeld R 3) (hls : ls.size = nL) (hrest : (rest.map fun v => v.category).sum ≤ 8) (d : decode cc pc = .ok (.invokevirtual 181, 3)) (hcap : cells ≤ R.cells ∧ slots ≤ R.slots) (kk : ∀ (H1 : Heap) (locs1 : List Loc), lb_W G s σ H1 locs1 → W p l e R s m args below meth c H1 locs1 cells slots Q (F0 m (pc + 3) ls (.int qr :: rest))) : W p l e R s m args below meth c H locs cells slots Q (F0 m pc ls (.ref (lb_ad G b0) :: rest)) :=
  lb_goI hW (lb_runV (As := []) X hW (m_X7_sortsHeld l G σ hb0 qr h) (n := 0) ⟨qw_616, qw_44, qw_619, by decide +kernel⟩ hR qw_617 qw_618 (lb_isV hb0) rfl hls hrest d hcap) kk
theorem rc_X8_184 {p : Program} {l : Launch} {e : Env} {R : Room} {s : State} {m : MethodId} {args : Array Value} {below : List Frame} {meth : Method} {c : Code} {H : Heap} {locs : List Loc} {cells slots : Nat} {Q : State → Prop} {cc : ByteArray} {pc nL : Nat} {ls : Array Slot} {rest : List Value} {G : lb_G} {σ : lb_Mem} {ret : Option FieldType} (X : lb_C G p s m args meth c cc nL RX8 ret) (hW : lb_W G s σ H locs) {b0 : Nat} (hb0 : lb_V b0) {qr : Int32} (h : f_X7_mostHeld σ b0 = some qr) (hR : lb_room rmX7_mostHeld R 3) (hls : ls.size = nL) (hrest : (rest.map fun v => v.category).sum ≤ 8) (d : decode cc pc = .ok (.invokevirtual 184, 3)) (hcap : cells ≤ R.cells ∧ slots ≤ R.slots) (kk : ∀ (H1 : Heap) (locs1 : List Loc), lb_W G s σ H1 locs1 → W p l e R s m args below meth c H1 locs1 cells slots Q (F0 m (pc + 3) ls (.int qr :: rest))) : W p l e R s m args below meth c H locs cells slots Q (F0 m pc ls (.ref (lb_ad G b0) :: rest)) :=
  lb_goI hW (lb_runV (As := []) X hW (m_X7_mostHeld l G σ hb0 qr h) (n := 0) ⟨qw_620, qw_44, qw_623, by decide +kernel⟩ hR qw_621 qw_622 (lb_isV hb0) rfl hls hrest d hcap) kk
theorem rc_X8_187 {p : Program} {l : Launch} {e : Env} {R : Room} {s : State} {m : MethodId} {args : Array Value} {below : List Frame} {meth : Method} {c : Code} {H : Heap} {locs : List Loc} {cells slots : Nat} {Q : State → Prop} {cc : ByteArray} {pc nL : Nat} {ls : Array Slot} {rest : List Value} {G : lb_G} {σ : lb_Mem} {ret : Option FieldType} (X : lb_C G p s m args meth c cc nL RX8 ret) (hW : lb_W G s σ H locs) {b0 : Nat} (hb0 : lb_V b0) {qr : Int32} (h : f_X7_sortsOnLabels σ b0 = some qr) (hR : lb_room rmX7_sortsOnLabels R 3) (hls : ls.size = nL) (hrest : (rest.map fun v => v.category).sum ≤ 8) (d : decode cc pc = .ok (.invokevirtual 187, 3)) (hcap : cells ≤ R.cells ∧ slots ≤ R.slots) (kk : ∀ (H1 : Heap) (locs1 : List Loc), lb_W G s σ H1 locs1 → W p l e R s m args below meth c H1 locs1 cells slots Q (F0 m (pc + 3) ls (.int qr :: rest))) : W p l e R s m args below meth c H locs cells slots Q (F0 m pc ls (.ref (lb_ad G b0) :: rest)) :=
  lb_goI hW (lb_runV (As := []) X hW (m_X7_sortsOnLabels l G σ hb0 qr h) (n := 0) ⟨qw_628, qw_44, qw_631, by decide +kernel⟩ hR qw_629 qw_630 (lb_isV hb0) rfl hls hrest d hcap) kk
abbrev rmX8_sorts : Room := { frames := 2, cells := 0, slots := 0, locals := 45 }
def f_X8_sorts (x1 : Int32) (σ : lb_Mem) : Option (Int32 × lb_Mem) := lb_let ((f_X8_known x1 (2 : Int32))) (fun v5 : Int32 => if v5 = 0 then if x1 = 0 then (f_X7_sortsHeld σ 1).bind (fun q48 => some (q48, σ)) else if x1 = 1 then (f_X7_mostHeld σ 1).bind (fun q56 => some (q56, σ)) else (f_X7_sortsOnLabels σ 1).bind (fun q64 => (f_X7_sortsHeld σ 1).bind (fun q71 => some ((q64 &&& (q71 ^^^ (-1 : Int32))), σ))) else (f_X8_refuse v5 σ).bind (fun q12 => some (q12.1, q12.2)))
set_option maxRecDepth 20000 in
set_option maxHeartbeats 4000000 in
theorem m_X8_sorts (l : Launch) (G : lb_G) (σ : lb_Mem) (x1 : Int32) (qr : (Int32 × lb_Mem)) (h : f_X8_sorts x1 σ = some qr) : lb_M l yX8_sorts cX8_sorts 3 (some .int) rmX8_sorts [.ref (lb_ad G 0), .int x1] G σ (lb_QI G qr.1 qr.2) := by
  refine lb_start RX8 (by decide +kernel) rfl (Nat.le_of_ble_eq_true rfl) (fun p e s m below meth c X hW ls hl => ?_)
  have hx := X.1
  have hb := X.2.1
  have hl : lv_has ls 3 [(0, .ref (lb_ad G 0)), (1, .int x1)] := hl
  have h : (lb_let ((f_X8_known x1 (2 : Int32))) (fun v5 : Int32 => if v5 = 0 then if x1 = 0 then (f_X7_sortsHeld σ 1).bind (fun q48 => some (q48, σ)) else if x1 = 1 then (f_X7_mostHeld σ 1).bind (fun q56 => some (q56, σ)) else (f_X7_sortsOnLabels σ 1).bind (fun q64 => (f_X7_sortsHeld σ 1).bind (fun q71 => some ((q64 &&& (q71 ^^^ (-1 : Int32))), σ))) else (f_X8_refuse v5 σ).bind (fun q12 => some (q12.1, q12.2)))) = some qr := h
  skip
  refine lv_iload_n hx hb dX8_sorts_0 rfl (lv_at hl 1 rfl) ?_
  refine lv_iconst (v := 2) hx hb dX8_sorts_1 rfl ?_
  refine rc_X8_86 X hW x1 (2 : Int32) ⟨⟨rfl, rfl⟩, Nat.le_of_ble_eq_true rfl, Nat.le_of_ble_eq_true rfl⟩ hl.1 (Nat.le_of_ble_eq_true rfl) dX8_sorts_2 ⟨Nat.zero_le _, Nat.zero_le _⟩ (fun H locs hW => ?_)
  refine lv_topi (fun v5 e5 => ?_)
  have h := lb_letI e5 h
  refine lv_istore_n (lv' := [(2, .int v5), (0, .ref (lb_ad G 0)), (1, .int x1)]) hx hb dX8_sorts_5 rfl hl (by decide) rfl (fun ls hl => ?_)
  refine lv_iload_n hx hb dX8_sorts_6 rfl (lv_at hl 0 rfl) ?_
  refine lv_if_eq (tgt := 16) hx hb dX8_sorts_7 (by decide) (fun c7 => ?_) (fun c7 => ?_)
  · have h := (if_pos c7).symm.trans h
    refine lv_iload_n hx hb dX8_sorts_16 rfl (lv_at hl 2 rfl) ?_
    by_cases c17_0 : x1 = 0
    · have h := (if_pos c17_0).symm.trans h
      refine lv_lookup (tgt := 44) hx hb dX8_sorts_17 (by decide) (off := 27) (by rw [c17_0]; rfl) (by decide) ?_
      refine lv_aload_n hx hb dX8_sorts_44 rfl (lv_at hl 1 rfl) ?_
      refine rg_X8_10 X hW dX8_sorts_45 ?_
      obtain ⟨q48, e48, h⟩ := lb_bind h
      refine rc_X8_181 X hW lb_V1 e48 ⟨⟨rfl, rfl⟩, Nat.le_of_ble_eq_true rfl, Nat.le_of_ble_eq_true rfl⟩ hl.1 (Nat.le_of_ble_eq_true rfl) dX8_sorts_48 ⟨Nat.zero_le _, Nat.zero_le _⟩ (fun H locs hW => ?_)
      obtain rfl := Option.some.inj h
      exact lb_iret X hW dX8_sorts_51
    have h := (if_neg c17_0).symm.trans h
    by_cases c17_1 : x1 = 1
    · have h := (if_pos c17_1).symm.trans h
      refine lv_lookup (tgt := 52) hx hb dX8_sorts_17 (by decide) (off := 35) (by rw [c17_1]; rfl) (by decide) ?_
      refine lv_aload_n hx hb dX8_sorts_52 rfl (lv_at hl 1 rfl) ?_
      refine rg_X8_10 X hW dX8_sorts_53 ?_
      obtain ⟨q56, e56, h⟩ := lb_bind h
      refine rc_X8_184 X hW lb_V1 e56 ⟨⟨rfl, rfl⟩, Nat.le_of_ble_eq_true rfl, Nat.le_of_ble_eq_true rfl⟩ hl.1 (Nat.le_of_ble_eq_true rfl) dX8_sorts_56 ⟨Nat.zero_le _, Nat.zero_le _⟩ (fun H locs hW => ?_)
      obtain rfl := Option.some.inj h
      exact lb_iret X hW dX8_sorts_59
    have h := (if_neg c17_1).symm.trans h
    refine lv_lookup (tgt := 60) hx hb dX8_sorts_17 (by decide) (off := 43) (lb_lk2 c17_0 c17_1) (by decide) ?_
    refine lv_aload_n hx hb dX8_sorts_60 rfl (lv_at hl 1 rfl) ?_
    refine rg_X8_10 X hW dX8_sorts_61 ?_
    obtain ⟨q64, e64, h⟩ := lb_bind h
    refine rc_X8_187 X hW lb_V1 e64 ⟨⟨rfl, rfl⟩, Nat.le_of_ble_eq_true rfl, Nat.le_of_ble_eq_true rfl⟩ hl.1 (Nat.le_of_ble_eq_true rfl) dX8_sorts_64 ⟨Nat.zero_le _, Nat.zero_le _⟩ (fun H locs hW => ?_)
    refine lv_aload_n hx hb dX8_sorts_67 rfl (lv_at hl 1 rfl) ?_
    refine rg_X8_10 X hW dX8_sorts_68 ?_
    obtain ⟨q71, e71, h⟩ := lb_bind h
    refine rc_X8_181 X hW lb_V1 e71 ⟨⟨rfl, rfl⟩, Nat.le_of_ble_eq_true rfl, Nat.le_of_ble_eq_true rfl⟩ hl.1 (Nat.le_of_ble_eq_true rfl) dX8_sorts_71 ⟨Nat.zero_le _, Nat.zero_le _⟩ (fun H locs hW => ?_)
    refine lv_iconst (v := -1) hx hb dX8_sorts_74 rfl ?_
    refine lv_ixor hx hb dX8_sorts_75 ?_
    refine lv_iand hx hb dX8_sorts_76 ?_
    obtain rfl := Option.some.inj h
    exact lb_iret X hW dX8_sorts_77
  · have h := (if_neg c7).symm.trans h
    refine lv_aload_n hx hb dX8_sorts_10 rfl (lv_at hl 1 rfl) ?_
    refine lv_iload_n hx hb dX8_sorts_11 rfl (lv_at hl 0 rfl) ?_
    obtain ⟨q12, e12, h⟩ := lb_bind h
    refine rc_X8_55 X hW e12 ⟨⟨rfl, rfl⟩, Nat.le_of_ble_eq_true rfl, Nat.le_of_ble_eq_true rfl⟩ hl.1 (Nat.le_of_ble_eq_true rfl) dX8_sorts_12 ⟨Nat.zero_le _, Nat.zero_le _⟩ (fun H locs hW => ?_)
    obtain rfl := Option.some.inj h
    exact lb_iret X hW dX8_sorts_15
abbrev rmJ6_bitCount_0f7a4 : Room := { frames := 0, cells := 0, slots := 0, locals := 0 }
def f_J6_bitCount_0f7a4 (x0 : Int32) : Int32 := lb_let ((x0 - (((x0.toUInt32 >>> ((1 : Int32).toUInt32 &&& Int32.toUInt32 31)).toInt32) &&& (1431655765 : Int32)))) (fun v9 : Int32 => lb_let (((v9 &&& (858993459 : Int32)) + (((v9.toUInt32 >>> ((2 : Int32).toUInt32 &&& Int32.toUInt32 31)).toInt32) &&& (858993459 : Int32)))) (fun v23 : Int32 => lb_let (((v23 + ((v23.toUInt32 >>> ((4 : Int32).toUInt32 &&& Int32.toUInt32 31)).toInt32)) &&& (252645135 : Int32))) (fun v33 : Int32 => lb_let ((v33 + ((v33.toUInt32 >>> ((8 : Int32).toUInt32 &&& Int32.toUInt32 31)).toInt32))) (fun v40 : Int32 => lb_let ((v40 + ((v40.toUInt32 >>> ((16 : Int32).toUInt32 &&& Int32.toUInt32 31)).toInt32))) (fun v47 : Int32 => (v47 &&& (63 : Int32)))))))
set_option maxRecDepth 20000 in
set_option maxHeartbeats 4000000 in
theorem m_J6_bitCount_0f7a4 (l : Launch) (G : lb_G) (σ : lb_Mem) (x0 : Int32) (qr : Int32) (h : f_J6_bitCount_0f7a4 x0 = qr) : lb_M l yJ6_bitCount_0f7a4 cJ6_bitCount_0f7a4 1 (some .int) rmJ6_bitCount_0f7a4 [.int x0] G σ (lb_QI G qr σ) := by
  refine lb_start RJ6 (by decide +kernel) rfl (Nat.le_of_ble_eq_true rfl) (fun p e s m below meth c X hW ls hl => ?_)
  have hx := X.1
  have hb := X.2.1
  have hl : lv_has ls 1 [(0, .int x0)] := hl
  have h : (lb_let ((x0 - (((x0.toUInt32 >>> ((1 : Int32).toUInt32 &&& Int32.toUInt32 31)).toInt32) &&& (1431655765 : Int32)))) (fun v9 : Int32 => lb_let (((v9 &&& (858993459 : Int32)) + (((v9.toUInt32 >>> ((2 : Int32).toUInt32 &&& Int32.toUInt32 31)).toInt32) &&& (858993459 : Int32)))) (fun v23 : Int32 => lb_let (((v23 + ((v23.toUInt32 >>> ((4 : Int32).toUInt32 &&& Int32.toUInt32 31)).toInt32)) &&& (252645135 : Int32))) (fun v33 : Int32 => lb_let ((v33 + ((v33.toUInt32 >>> ((8 : Int32).toUInt32 &&& Int32.toUInt32 31)).toInt32))) (fun v40 : Int32 => lb_let ((v40 + ((v40.toUInt32 >>> ((16 : Int32).toUInt32 &&& Int32.toUInt32 31)).toInt32))) (fun v47 : Int32 => (v47 &&& (63 : Int32)))))))) = qr := h
  skip
  refine lv_iload_n hx hb dJ6_bitCount_0f7a4_0 rfl (lv_at hl 0 rfl) ?_
  refine lv_iload_n hx hb dJ6_bitCount_0f7a4_1 rfl (lv_at hl 0 rfl) ?_
  refine lv_iconst (v := 1) hx hb dJ6_bitCount_0f7a4_2 rfl ?_
  refine lv_iushr (v := (x0.toUInt32 >>> ((1 : Int32).toUInt32 &&& Int32.toUInt32 31)).toInt32) hx hb dJ6_bitCount_0f7a4_3 rfl ?_
  refine lv_ldcw (v := 1431655765) hx hb X.2.2.2.1 (X.2.2.2.2.1 _ qw_643) dJ6_bitCount_0f7a4_4 ?_
  refine lv_iand hx hb dJ6_bitCount_0f7a4_7 ?_
  refine lv_isub hx hb dJ6_bitCount_0f7a4_8 ?_
  refine lv_topi (fun v9 e9 => ?_)
  have h := lb_letI e9 h
  refine lv_istore_n (lv' := [(0, .int v9)]) hx hb dJ6_bitCount_0f7a4_9 rfl hl (by decide) rfl (fun ls hl => ?_)
  refine lv_iload_n hx hb dJ6_bitCount_0f7a4_10 rfl (lv_at hl 0 rfl) ?_
  refine lv_ldcw (v := 858993459) hx hb X.2.2.2.1 (X.2.2.2.2.1 _ qw_644) dJ6_bitCount_0f7a4_11 ?_
  refine lv_iand hx hb dJ6_bitCount_0f7a4_14 ?_
  refine lv_iload_n hx hb dJ6_bitCount_0f7a4_15 rfl (lv_at hl 0 rfl) ?_
  refine lv_iconst (v := 2) hx hb dJ6_bitCount_0f7a4_16 rfl ?_
  refine lv_iushr (v := (v9.toUInt32 >>> ((2 : Int32).toUInt32 &&& Int32.toUInt32 31)).toInt32) hx hb dJ6_bitCount_0f7a4_17 rfl ?_
  refine lv_ldcw (v := 858993459) hx hb X.2.2.2.1 (X.2.2.2.2.1 _ qw_644) dJ6_bitCount_0f7a4_18 ?_
  refine lv_iand hx hb dJ6_bitCount_0f7a4_21 ?_
  refine lv_iadd hx hb dJ6_bitCount_0f7a4_22 ?_
  refine lv_topi (fun v23 e23 => ?_)
  have h := lb_letI e23 h
  refine lv_istore_n (lv' := [(0, .int v23)]) hx hb dJ6_bitCount_0f7a4_23 rfl hl (by decide) rfl (fun ls hl => ?_)
  refine lv_iload_n hx hb dJ6_bitCount_0f7a4_24 rfl (lv_at hl 0 rfl) ?_
  refine lv_iload_n hx hb dJ6_bitCount_0f7a4_25 rfl (lv_at hl 0 rfl) ?_
  refine lv_iconst (v := 4) hx hb dJ6_bitCount_0f7a4_26 rfl ?_
  refine lv_iushr (v := (v23.toUInt32 >>> ((4 : Int32).toUInt32 &&& Int32.toUInt32 31)).toInt32) hx hb dJ6_bitCount_0f7a4_27 rfl ?_
  refine lv_iadd hx hb dJ6_bitCount_0f7a4_28 ?_
  refine lv_ldcw (v := 252645135) hx hb X.2.2.2.1 (X.2.2.2.2.1 _ qw_645) dJ6_bitCount_0f7a4_29 ?_
  refine lv_iand hx hb dJ6_bitCount_0f7a4_32 ?_
  refine lv_topi (fun v33 e33 => ?_)
  have h := lb_letI e33 h
  refine lv_istore_n (lv' := [(0, .int v33)]) hx hb dJ6_bitCount_0f7a4_33 rfl hl (by decide) rfl (fun ls hl => ?_)
  refine lv_iload_n hx hb dJ6_bitCount_0f7a4_34 rfl (lv_at hl 0 rfl) ?_
  refine lv_iload_n hx hb dJ6_bitCount_0f7a4_35 rfl (lv_at hl 0 rfl) ?_
  refine lv_bipush (v := 8) hx hb dJ6_bitCount_0f7a4_36 rfl ?_
  refine lv_iushr (v := (v33.toUInt32 >>> ((8 : Int32).toUInt32 &&& Int32.toUInt32 31)).toInt32) hx hb dJ6_bitCount_0f7a4_38 rfl ?_
  refine lv_iadd hx hb dJ6_bitCount_0f7a4_39 ?_
  refine lv_topi (fun v40 e40 => ?_)
  have h := lb_letI e40 h
  refine lv_istore_n (lv' := [(0, .int v40)]) hx hb dJ6_bitCount_0f7a4_40 rfl hl (by decide) rfl (fun ls hl => ?_)
  refine lv_iload_n hx hb dJ6_bitCount_0f7a4_41 rfl (lv_at hl 0 rfl) ?_
  refine lv_iload_n hx hb dJ6_bitCount_0f7a4_42 rfl (lv_at hl 0 rfl) ?_
  refine lv_bipush (v := 16) hx hb dJ6_bitCount_0f7a4_43 rfl ?_
  refine lv_iushr (v := (v40.toUInt32 >>> ((16 : Int32).toUInt32 &&& Int32.toUInt32 31)).toInt32) hx hb dJ6_bitCount_0f7a4_45 rfl ?_
  refine lv_iadd hx hb dJ6_bitCount_0f7a4_46 ?_
  refine lv_topi (fun v47 e47 => ?_)
  have h := lb_letI e47 h
  refine lv_istore_n (lv' := [(0, .int v47)]) hx hb dJ6_bitCount_0f7a4_47 rfl hl (by decide) rfl (fun ls hl => ?_)
  refine lv_iload_n hx hb dJ6_bitCount_0f7a4_48 rfl (lv_at hl 0 rfl) ?_
  refine lv_bipush (v := 63) hx hb dJ6_bitCount_0f7a4_49 rfl ?_
  refine lv_iand hx hb dJ6_bitCount_0f7a4_51 ?_
  subst h
  exact lb_iret X hW dJ6_bitCount_0f7a4_52
abbrev rmX8_keepsGrace : Room := { frames := 5, cells := 0, slots := 0, locals := 119 }
def f_X8_keepsGrace_98 (x1 : Int32) (σ : lb_Mem) : Option (Int32 × lb_Mem) := lb_chk (lb_ix x1 5) (if (σ 32 x1.toNatClampNeg) ≤ 0 then some ((0 : Int32), σ) else some ((1 : Int32), σ))
set_option maxRecDepth 20000 in
set_option maxHeartbeats 4000000 in
theorem w_X8_keepsGrace_98 {p : Program} {l : Launch} {e : Env} {s : State} {m : MethodId} {args : Array Value} {below : List Frame} {meth : Method} {c : Code} {G : lb_G} {qr : (Int32 × lb_Mem)} (X : lb_C G p s m args meth c cX8_keepsGrace 5 RX8 (some .boolean)) : ∀ (x1 : Int32) (σ : lb_Mem) (H : Heap) (locs : List Loc) (ls : Array Slot), f_X8_keepsGrace_98 x1 σ = some qr → lb_W G s σ H locs → lv_has ls 5 [(0, .ref (lb_ad G 0)), (1, .int x1)] → W p l e rmX8_keepsGrace s m args below meth c H locs 0 0 (MQ below (lb_QI G qr.1 qr.2) args s 0 0 (lb_A G)) (F0 m 98 ls []) := by
  have hx := X.1
  have hb := X.2.1
  intro x1 σ H locs ls h hW hl
  have h : (lb_chk (lb_ix x1 5) (if (σ 32 x1.toNatClampNeg) ≤ 0 then some ((0 : Int32), σ) else some ((1 : Int32), σ))) = some qr := h
  refine lv_aload_n hx hb dX8_keepsGrace_98 rfl (lv_at hl 0 rfl) ?_
  refine rg_X8_16 X hW dX8_keepsGrace_99 ?_
  refine rg_X8_113 (k := 32) X hW lb_V17 rfl dX8_keepsGrace_102 ?_
  refine lv_iload_n hx hb dX8_keepsGrace_105 rfl (lv_at hl 1 rfl) ?_
  obtain ⟨i106, h⟩ := lb_chk_in h
  refine lb_ild X hW (show lb_ar 32 = 4 + 1 from rfl) i106 dX8_keepsGrace_106 ?_
  refine lv_if_le (tgt := 114) hx hb dX8_keepsGrace_107 (by decide) (fun c107 => ?_) (fun c107 => ?_)
  · have h := (if_pos c107).symm.trans h
    refine lv_iconst (v := 0) hx hb dX8_keepsGrace_114 rfl ?_
    obtain rfl := Option.some.inj h
    exact lb_zret X hW (Or.inl rfl) dX8_keepsGrace_115
  · have h := (if_neg c107).symm.trans h
    refine lv_iconst (v := 1) hx hb dX8_keepsGrace_110 rfl ?_
    refine lv_goto (tgt := 115) hx hb dX8_keepsGrace_111 (by decide) ?_
    obtain rfl := Option.some.inj h
    exact lb_zret X hW (Or.inr rfl) dX8_keepsGrace_115
def f_X8_keepsGrace_65 : Nat → Int32 → Int32 → Int32 → lb_Mem → Option (Int32 × lb_Mem)
  | 0, _, _, _, _ => none
  | n + 1, x1, x3, x4, σ => if x3 ≤ x4 then f_X8_keepsGrace_98 x1 σ else lb_chk (lb_ix x1 5) (if (σ 32 x1.toNatClampNeg) ≤ 0 then f_X8_keepsGrace_98 x1 σ else (f_X7_passFor 17 x1 (1 : Int32) σ).bind (fun s89 => f_X8_keepsGrace_65 n x1 x3 (x4 + 1) s89))
set_option maxRecDepth 20000 in
set_option maxHeartbeats 4000000 in
theorem w_X8_keepsGrace_65 {p : Program} {l : Launch} {e : Env} {s : State} {m : MethodId} {args : Array Value} {below : List Frame} {meth : Method} {c : Code} {G : lb_G} {qr : (Int32 × lb_Mem)} (X : lb_C G p s m args meth c cX8_keepsGrace 5 RX8 (some .boolean)) : ∀ (n : Nat) (x1 : Int32) (x3 : Int32) (x4 : Int32) (σ : lb_Mem) (H : Heap) (locs : List Loc) (ls : Array Slot), f_X8_keepsGrace_65 n x1 x3 x4 σ = some qr → lb_W G s σ H locs → lv_has ls 5 [(0, .ref (lb_ad G 0)), (1, .int x1), (3, .int x3), (4, .int x4)] → W p l e rmX8_keepsGrace s m args below meth c H locs 0 0 (MQ below (lb_QI G qr.1 qr.2) args s 0 0 (lb_A G)) (F0 m 65 ls []) := by
  have hx := X.1
  have hb := X.2.1
  intro n
  induction n with
  | zero => intro x1 x3 x4 σ H locs ls h hW hl; exact absurd h (fun z => by cases z)
  | succ n ih =>
    intro x1 x3 x4 σ H locs ls h hW hl
    have h : (if x3 ≤ x4 then f_X8_keepsGrace_98 x1 σ else lb_chk (lb_ix x1 5) (if (σ 32 x1.toNatClampNeg) ≤ 0 then f_X8_keepsGrace_98 x1 σ else (f_X7_passFor 17 x1 (1 : Int32) σ).bind (fun s89 => f_X8_keepsGrace_65 n x1 x3 (x4 + 1) s89))) = some qr := h
    refine lv_iload hx hb dX8_keepsGrace_65 (lv_at hl 3 rfl) ?_
    refine lv_iload_n hx hb dX8_keepsGrace_67 rfl (lv_at hl 2 rfl) ?_
    refine lv_icmp_ge (tgt := 98) hx hb dX8_keepsGrace_68 (by decide) (fun c68 => ?_) (fun c68 => ?_)
    · have h := (if_pos c68).symm.trans h
      exact w_X8_keepsGrace_98 X x1 σ _ _ _ h hW (lv_sub hl [0, 1] rfl)
    · have h := (if_neg c68).symm.trans h
      refine lv_aload_n hx hb dX8_keepsGrace_71 rfl (lv_at hl 0 rfl) ?_
      refine rg_X8_16 X hW dX8_keepsGrace_72 ?_
      refine rg_X8_113 (k := 32) X hW lb_V17 rfl dX8_keepsGrace_75 ?_
      refine lv_iload_n hx hb dX8_keepsGrace_78 rfl (lv_at hl 1 rfl) ?_
      obtain ⟨i79, h⟩ := lb_chk_in h
      refine lb_ild X hW (show lb_ar 32 = 4 + 1 from rfl) i79 dX8_keepsGrace_79 ?_
      refine lv_if_le (tgt := 98) hx hb dX8_keepsGrace_80 (by decide) (fun c80 => ?_) (fun c80 => ?_)
      · have h := (if_pos c80).symm.trans h
        exact w_X8_keepsGrace_98 X x1 σ _ _ _ h hW (lv_sub hl [0, 1] rfl)
      · have h := (if_neg c80).symm.trans h
        refine lv_aload_n hx hb dX8_keepsGrace_83 rfl (lv_at hl 0 rfl) ?_
        refine rg_X8_16 X hW dX8_keepsGrace_84 ?_
        refine lv_iload_n hx hb dX8_keepsGrace_87 rfl (lv_at hl 1 rfl) ?_
        refine lv_iconst (v := 1) hx hb dX8_keepsGrace_88 rfl ?_
        obtain ⟨s89, e89, h⟩ := lb_bind h
        refine rc_X8_146 X hW lb_V17 e89 ⟨⟨rfl, rfl⟩, Nat.le_of_ble_eq_true rfl, Nat.le_of_ble_eq_true rfl⟩ hl.1 (Nat.le_of_ble_eq_true rfl) dX8_keepsGrace_89 ⟨Nat.zero_le _, Nat.zero_le _⟩ (fun H locs hW => ?_)
        refine lv_iinc (v := (x4 + 1)) (lv' := [(4, .int (x4 + 1)), (0, .ref (lb_ad G 0)), (1, .int x1), (3, .int x3)]) hx hb dX8_keepsGrace_92 hl (k := 3) rfl rfl (by decide) rfl (fun ls hl => ?_)
        refine lv_goto (tgt := 65) hx hb dX8_keepsGrace_95 (by decide) ?_
        exact ih x1 x3 (x4 + 1) s89 _ _ _ h hW (lv_sub hl [1, 2, 3, 0] rfl)
def f_X8_keepsGrace_14 : Nat → Int32 → Int32 → Int32 → Int32 → lb_Mem → Option (Int32 × lb_Mem)
  | 0, _, _, _, _, _ => none
  | n + 1, x1, x2, x3, x4, σ => if (σ 17 9) ≤ x4 then f_X8_keepsGrace_65 lb_N x1 x3 (0 : Int32) σ else if ((x2 >>> (x4 &&& 31)) &&& (1 : Int32)) = (1 : Int32) then lb_chk (lb_ix x4 8) (lb_chk (lb_ix x4 8) (lb_let (lb_sto σ 28 x4.toNatClampNeg (σ 27 x4.toNatClampNeg)) (fun s55 : lb_Mem => f_X8_keepsGrace_14 n x1 x2 x3 (x4 + 1) s55))) else f_X8_keepsGrace_14 n x1 x2 x3 (x4 + 1) σ
set_option maxRecDepth 20000 in
set_option maxHeartbeats 4000000 in
theorem w_X8_keepsGrace_14 {p : Program} {l : Launch} {e : Env} {s : State} {m : MethodId} {args : Array Value} {below : List Frame} {meth : Method} {c : Code} {G : lb_G} {qr : (Int32 × lb_Mem)} (X : lb_C G p s m args meth c cX8_keepsGrace 5 RX8 (some .boolean)) : ∀ (n : Nat) (x1 : Int32) (x2 : Int32) (x3 : Int32) (x4 : Int32) (σ : lb_Mem) (H : Heap) (locs : List Loc) (ls : Array Slot), f_X8_keepsGrace_14 n x1 x2 x3 x4 σ = some qr → lb_W G s σ H locs → lv_has ls 5 [(0, .ref (lb_ad G 0)), (1, .int x1), (2, .int x2), (3, .int x3), (4, .int x4)] → W p l e rmX8_keepsGrace s m args below meth c H locs 0 0 (MQ below (lb_QI G qr.1 qr.2) args s 0 0 (lb_A G)) (F0 m 14 ls []) := by
  have hx := X.1
  have hb := X.2.1
  intro n
  induction n with
  | zero => intro x1 x2 x3 x4 σ H locs ls h hW hl; exact absurd h (fun z => by cases z)
  | succ n ih =>
    intro x1 x2 x3 x4 σ H locs ls h hW hl
    have h : (if (σ 17 9) ≤ x4 then f_X8_keepsGrace_65 lb_N x1 x3 (0 : Int32) σ else if ((x2 >>> (x4 &&& 31)) &&& (1 : Int32)) = (1 : Int32) then lb_chk (lb_ix x4 8) (lb_chk (lb_ix x4 8) (lb_let (lb_sto σ 28 x4.toNatClampNeg (σ 27 x4.toNatClampNeg)) (fun s55 : lb_Mem => f_X8_keepsGrace_14 n x1 x2 x3 (x4 + 1) s55))) else f_X8_keepsGrace_14 n x1 x2 x3 (x4 + 1) σ) = some qr := h
    refine lv_iload hx hb dX8_keepsGrace_14 (lv_at hl 4 rfl) ?_
    refine lv_aload_n hx hb dX8_keepsGrace_16 rfl (lv_at hl 0 rfl) ?_
    refine rg_X8_16 X hW dX8_keepsGrace_17 ?_
    refine rg_X8_165 X hW lb_V17 dX8_keepsGrace_20 ?_
    refine lv_icmp_ge (tgt := 62) hx hb dX8_keepsGrace_23 (by decide) (fun c23 => ?_) (fun c23 => ?_)
    · have h := (if_pos c23).symm.trans h
      refine lv_iconst (v := 0) hx hb dX8_keepsGrace_62 rfl ?_
      refine lv_istore (lv' := [(4, .int (0 : Int32)), (0, .ref (lb_ad G 0)), (1, .int x1), (2, .int x2), (3, .int x3)]) hx hb dX8_keepsGrace_63 hl (by decide) rfl (fun ls hl => ?_)
      exact w_X8_keepsGrace_65 X lb_N x1 x3 (0 : Int32) σ _ _ _ h hW (lv_sub hl [1, 2, 4, 0] rfl)
    · have h := (if_neg c23).symm.trans h
      refine lv_iload_n hx hb dX8_keepsGrace_26 rfl (lv_at hl 2 rfl) ?_
      refine lv_iload hx hb dX8_keepsGrace_27 (lv_at hl 4 rfl) ?_
      refine lv_ishr hx hb dX8_keepsGrace_29 ?_
      refine lv_iconst (v := 1) hx hb dX8_keepsGrace_30 rfl ?_
      refine lv_iand hx hb dX8_keepsGrace_31 ?_
      refine lv_iconst (v := 1) hx hb dX8_keepsGrace_32 rfl ?_
      refine lv_icmp_ne (tgt := 56) hx hb dX8_keepsGrace_33 (by decide) (fun c33 => ?_) (fun c33 => ?_)
      · have h := (if_neg c33).symm.trans h
        refine lv_iinc (v := (x4 + 1)) (lv' := [(4, .int (x4 + 1)), (0, .ref (lb_ad G 0)), (1, .int x1), (2, .int x2), (3, .int x3)]) hx hb dX8_keepsGrace_56 hl (k := 4) rfl rfl (by decide) rfl (fun ls hl => ?_)
        refine lv_goto (tgt := 14) hx hb dX8_keepsGrace_59 (by decide) ?_
        exact ih x1 x2 x3 (x4 + 1) σ _ _ _ h hW (lv_sub hl [1, 2, 3, 4, 0] rfl)
      · have h := (if_pos c33).symm.trans h
        refine lv_aload_n hx hb dX8_keepsGrace_36 rfl (lv_at hl 0 rfl) ?_
        refine rg_X8_16 X hW dX8_keepsGrace_37 ?_
        refine rg_X8_98 (k := 28) X hW lb_V17 rfl dX8_keepsGrace_40 ?_
        refine lv_iload hx hb dX8_keepsGrace_43 (lv_at hl 4 rfl) ?_
        refine lv_aload_n hx hb dX8_keepsGrace_45 rfl (lv_at hl 0 rfl) ?_
        refine rg_X8_16 X hW dX8_keepsGrace_46 ?_
        refine rg_X8_95 (k := 27) X hW lb_V17 rfl dX8_keepsGrace_49 ?_
        refine lv_iload hx hb dX8_keepsGrace_52 (lv_at hl 4 rfl) ?_
        obtain ⟨i54, h⟩ := lb_chk_in h
        refine lb_ild X hW (show lb_ar 27 = 7 + 1 from rfl) i54 dX8_keepsGrace_54 ?_
        obtain ⟨i55, h⟩ := lb_chk_in h
        refine lb_ist X hW (show lb_ar 28 = 7 + 1 from rfl) i55 dX8_keepsGrace_55 (fun H locs hW => ?_)
        obtain ⟨s55, e55⟩ : ∃ z, z = lb_sto σ 28 x4.toNatClampNeg (σ 27 x4.toNatClampNeg) := ⟨_, rfl⟩
        rw [← e55] at hW
        have h := lb_letI e55 h
        refine lv_iinc (v := (x4 + 1)) (lv' := [(4, .int (x4 + 1)), (0, .ref (lb_ad G 0)), (1, .int x1), (2, .int x2), (3, .int x3)]) hx hb dX8_keepsGrace_56 hl (k := 4) rfl rfl (by decide) rfl (fun ls hl => ?_)
        refine lv_goto (tgt := 14) hx hb dX8_keepsGrace_59 (by decide) ?_
        exact ih x1 x2 x3 (x4 + 1) s55 _ _ _ h hW (lv_sub hl [1, 2, 3, 4, 0] rfl)
def f_X8_keepsGrace (x1 : Int32) (x2 : Int32) (x3 : Int32) (σ : lb_Mem) : Option (Int32 × lb_Mem) := (f_X7_become 17 1 σ).bind (fun s8 => f_X8_keepsGrace_14 lb_N x1 x2 x3 (0 : Int32) s8)
set_option maxRecDepth 20000 in
set_option maxHeartbeats 4000000 in
theorem m_X8_keepsGrace (l : Launch) (G : lb_G) (σ : lb_Mem) (x1 : Int32) (x2 : Int32) (x3 : Int32) (qr : (Int32 × lb_Mem)) (h : f_X8_keepsGrace x1 x2 x3 σ = some qr) : lb_M l yX8_keepsGrace cX8_keepsGrace 5 (some .boolean) rmX8_keepsGrace [.ref (lb_ad G 0), .int x1, .int x2, .int x3] G σ (lb_QI G qr.1 qr.2) := by
  refine lb_start RX8 (by decide +kernel) rfl (Nat.le_of_ble_eq_true rfl) (fun p e s m below meth c X hW ls hl => ?_)
  have hx := X.1
  have hb := X.2.1
  have hl : lv_has ls 5 [(0, .ref (lb_ad G 0)), (1, .int x1), (2, .int x2), (3, .int x3)] := hl
  have h : ((f_X7_become 17 1 σ).bind (fun s8 => f_X8_keepsGrace_14 lb_N x1 x2 x3 (0 : Int32) s8)) = some qr := h
  skip
  refine lv_aload_n hx hb dX8_keepsGrace_0 rfl (lv_at hl 0 rfl) ?_
  refine rg_X8_16 X hW dX8_keepsGrace_1 ?_
  refine lv_aload_n hx hb dX8_keepsGrace_4 rfl (lv_at hl 0 rfl) ?_
  refine rg_X8_10 X hW dX8_keepsGrace_5 ?_
  obtain ⟨s8, e8, h⟩ := lb_bind h
  refine rc_X8_67 X hW lb_V17 lb_V1 e8 ⟨⟨rfl, rfl⟩, Nat.le_of_ble_eq_true rfl, Nat.le_of_ble_eq_true rfl⟩ hl.1 (Nat.le_of_ble_eq_true rfl) dX8_keepsGrace_8 ⟨Nat.zero_le _, Nat.zero_le _⟩ (fun H locs hW => ?_)
  refine lv_iconst (v := 0) hx hb dX8_keepsGrace_11 rfl ?_
  refine lv_istore (lv' := [(4, .int (0 : Int32)), (0, .ref (lb_ad G 0)), (1, .int x1), (2, .int x2), (3, .int x3)]) hx hb dX8_keepsGrace_12 hl (by decide) rfl (fun ls hl => ?_)
  exact w_X8_keepsGrace_14 X lb_N x1 x2 x3 (0 : Int32) s8 _ _ _ h hW (lv_sub hl [1, 2, 3, 4, 0] rfl)
theorem rc_X8_193 {p : Program} {l : Launch} {e : Env} {R : Room} {s : State} {m : MethodId} {args : Array Value} {below : List Frame} {meth : Method} {c : Code} {H : Heap} {locs : List Loc} {cells slots : Nat} {Q : State → Prop} {cc : ByteArray} {pc nL : Nat} {ls : Array Slot} {rest : List Value} {G : lb_G} {σ : lb_Mem} {ret : Option FieldType} (X : lb_C G p s m args meth c cc nL RX8 ret) (hW : lb_W G s σ H locs) (x0 : Int32) (hR : lb_room rmJ6_bitCount_0f7a4 R 1) (hls : ls.size = nL) (hrest : (rest.map fun v => v.category).sum ≤ 8) (d : decode cc pc = .ok (.invokestatic 193, 3)) (hcap : cells ≤ R.cells ∧ slots ≤ R.slots) (kk : ∀ (H1 : Heap) (locs1 : List Loc), lb_W G s σ H1 locs1 → W p l e R s m args below meth c H1 locs1 cells slots Q (F0 m (pc + 3) ls (.int (f_J6_bitCount_0f7a4 x0) :: rest))) : W p l e R s m args below meth c H locs cells slots Q (F0 m pc ls (.int x0 :: rest)) :=
  lb_goI hW (lb_runS (As := [.int x0]) X hW (m_J6_bitCount_0f7a4 l G σ x0 _ rfl) (n := 1) ⟨qw_640, qw_60, qw_642, by decide +kernel⟩ hR qw_641 rfl hls hrest d hcap) kk
theorem rc_X8_198 {p : Program} {l : Launch} {e : Env} {R : Room} {s : State} {m : MethodId} {args : Array Value} {below : List Frame} {meth : Method} {c : Code} {H : Heap} {locs : List Loc} {cells slots : Nat} {Q : State → Prop} {cc : ByteArray} {pc nL : Nat} {ls : Array Slot} {rest : List Value} {G : lb_G} {σ : lb_Mem} {ret : Option FieldType} (X : lb_C G p s m args meth c cc nL RX8 ret) (hW : lb_W G s σ H locs) {x1 : Int32} {x2 : Int32} {x3 : Int32} {qr : (Int32 × lb_Mem)} (h : f_X8_keepsGrace x1 x2 x3 σ = some qr) (hR : lb_room rmX8_keepsGrace R 5) (hls : ls.size = nL) (hrest : (rest.map fun v => v.category).sum ≤ 8) (d : decode cc pc = .ok (.invokevirtual 198, 3)) (hcap : cells ≤ R.cells ∧ slots ≤ R.slots) (kk : ∀ (H1 : Heap) (locs1 : List Loc), lb_W G s qr.2 H1 locs1 → W p l e R s m args below meth c H1 locs1 cells slots Q (F0 m (pc + 3) ls (.int qr.1 :: rest))) : W p l e R s m args below meth c H locs cells slots Q (F0 m pc ls (.int x3 :: .int x2 :: .int x1 :: .ref (lb_ad G 0) :: rest)) :=
  lb_goI hW (lb_runV (As := [.int x1, .int x2, .int x3]) X hW (m_X8_keepsGrace l G σ x1 x2 x3 qr h) (n := 3) ⟨qw_646, qw_43, qw_649, by decide +kernel⟩ hR qw_648 qw_10 lb_is0 rfl hls hrest d hcap) kk
abbrev rmX8_fewestOf : Room := { frames := 6, cells := 0, slots := 0, locals := 143 }
def f_X8_fewestOf_57 (kc26 : Int32 → Int32 → Int32 → Int32 → Int32 → lb_Mem → Option (Int32 × lb_Mem)) (x1 : Int32) (x2 : Int32) (x3 : Int32) (x4 : Int32) (x5 : Int32) (σ : lb_Mem) (y0 : Int32) : Option (Int32 × lb_Mem) := if y0 = 0 then kc26 x1 x2 x3 x4 (x5 + 1) σ else if (x5 &&& (x3 ^^^ (-1 : Int32))) = 0 then (f_X8_keepsGrace x1 x5 x2 σ).bind (fun q78 => if q78.1 = 0 then kc26 x1 x2 x3 x4 (x5 + 1) q78.2 else kc26 x1 x2 x3 x5 (x5 + 1) q78.2) else kc26 x1 x2 x3 x4 (x5 + 1) σ
set_option maxRecDepth 20000 in
set_option maxHeartbeats 4000000 in
theorem w_X8_fewestOf_57 {p : Program} {l : Launch} {e : Env} {s : State} {m : MethodId} {args : Array Value} {below : List Frame} {meth : Method} {c : Code} {G : lb_G} {qr : (Int32 × lb_Mem)} (X : lb_C G p s m args meth c cX8_fewestOf 7 RX8 (some .int)) {kc26 : Int32 → Int32 → Int32 → Int32 → Int32 → lb_Mem → Option (Int32 × lb_Mem)} (hc26 : ∀ (x1 : Int32) (x2 : Int32) (x3 : Int32) (x4 : Int32) (x5 : Int32) (σ : lb_Mem) (H : Heap) (locs : List Loc) (ls : Array Slot), kc26 x1 x2 x3 x4 x5 σ = some qr → lb_W G s σ H locs → lv_has ls 7 [(0, .ref (lb_ad G 0)), (1, .int x1), (2, .int x2), (3, .int x3), (4, .int x4), (5, .int x5)] → W p l e rmX8_fewestOf s m args below meth c H locs 0 0 (MQ below (lb_QI G qr.1 qr.2) args s 0 0 (lb_A G)) (F0 m 26 ls [])) : ∀ (x1 : Int32) (x2 : Int32) (x3 : Int32) (x4 : Int32) (x5 : Int32) (σ : lb_Mem) (y0 : Int32) (H : Heap) (locs : List Loc) (ls : Array Slot), f_X8_fewestOf_57 kc26 x1 x2 x3 x4 x5 σ y0 = some qr → lb_W G s σ H locs → lv_has ls 7 [(0, .ref (lb_ad G 0)), (1, .int x1), (2, .int x2), (3, .int x3), (4, .int x4), (5, .int x5)] → W p l e rmX8_fewestOf s m args below meth c H locs 0 0 (MQ below (lb_QI G qr.1 qr.2) args s 0 0 (lb_A G)) (F0 m 57 ls [.int y0]) := by
  have hx := X.1
  have hb := X.2.1
  intro x1 x2 x3 x4 x5 σ y0 H locs ls h hW hl
  have h : (if y0 = 0 then kc26 x1 x2 x3 x4 (x5 + 1) σ else if (x5 &&& (x3 ^^^ (-1 : Int32))) = 0 then (f_X8_keepsGrace x1 x5 x2 σ).bind (fun q78 => if q78.1 = 0 then kc26 x1 x2 x3 x4 (x5 + 1) q78.2 else kc26 x1 x2 x3 x5 (x5 + 1) q78.2) else kc26 x1 x2 x3 x4 (x5 + 1) σ) = some qr := h
  refine lv_istore (lv' := [(6, .int y0), (0, .ref (lb_ad G 0)), (1, .int x1), (2, .int x2), (3, .int x3), (4, .int x4), (5, .int x5)]) hx hb dX8_fewestOf_57 hl (by decide) rfl (fun ls hl => ?_)
  refine lv_iload hx hb dX8_fewestOf_59 (lv_at hl 0 rfl) ?_
  refine lv_if_eq (tgt := 88) hx hb dX8_fewestOf_61 (by decide) (fun c61 => ?_) (fun c61 => ?_)
  · have h := (if_pos c61).symm.trans h
    refine lv_iinc (v := (x5 + 1)) (lv' := [(5, .int (x5 + 1)), (6, .int y0), (0, .ref (lb_ad G 0)), (1, .int x1), (2, .int x2), (3, .int x3), (4, .int x4)]) hx hb dX8_fewestOf_88 hl (k := 6) rfl rfl (by decide) rfl (fun ls hl => ?_)
    refine lv_goto (tgt := 26) hx hb dX8_fewestOf_91 (by decide) ?_
    exact hc26 x1 x2 x3 x4 (x5 + 1) σ _ _ _ h hW (lv_sub hl [2, 3, 4, 5, 6, 0] rfl)
  · have h := (if_neg c61).symm.trans h
    refine lv_iload hx hb dX8_fewestOf_64 (lv_at hl 6 rfl) ?_
    refine lv_iload_n hx hb dX8_fewestOf_66 rfl (lv_at hl 4 rfl) ?_
    refine lv_iconst (v := -1) hx hb dX8_fewestOf_67 rfl ?_
    refine lv_ixor hx hb dX8_fewestOf_68 ?_
    refine lv_iand hx hb dX8_fewestOf_69 ?_
    refine lv_if_ne (tgt := 88) hx hb dX8_fewestOf_70 (by decide) (fun c70 => ?_) (fun c70 => ?_)
    · have h := (if_neg c70).symm.trans h
      refine lv_iinc (v := (x5 + 1)) (lv' := [(5, .int (x5 + 1)), (6, .int y0), (0, .ref (lb_ad G 0)), (1, .int x1), (2, .int x2), (3, .int x3), (4, .int x4)]) hx hb dX8_fewestOf_88 hl (k := 6) rfl rfl (by decide) rfl (fun ls hl => ?_)
      refine lv_goto (tgt := 26) hx hb dX8_fewestOf_91 (by decide) ?_
      exact hc26 x1 x2 x3 x4 (x5 + 1) σ _ _ _ h hW (lv_sub hl [2, 3, 4, 5, 6, 0] rfl)
    · have h := (if_pos c70).symm.trans h
      refine lv_aload_n hx hb dX8_fewestOf_73 rfl (lv_at hl 1 rfl) ?_
      refine lv_iload_n hx hb dX8_fewestOf_74 rfl (lv_at hl 2 rfl) ?_
      refine lv_iload hx hb dX8_fewestOf_75 (lv_at hl 6 rfl) ?_
      refine lv_iload_n hx hb dX8_fewestOf_77 rfl (lv_at hl 3 rfl) ?_
      obtain ⟨q78, e78, h⟩ := lb_bind h
      refine rc_X8_198 X hW e78 ⟨⟨rfl, rfl⟩, Nat.le_of_ble_eq_true rfl, Nat.le_of_ble_eq_true rfl⟩ hl.1 (Nat.le_of_ble_eq_true rfl) dX8_fewestOf_78 ⟨Nat.zero_le _, Nat.zero_le _⟩ (fun H locs hW => ?_)
      refine lv_if_eq (tgt := 88) hx hb dX8_fewestOf_81 (by decide) (fun c81 => ?_) (fun c81 => ?_)
      · have h := (if_pos c81).symm.trans h
        refine lv_iinc (v := (x5 + 1)) (lv' := [(5, .int (x5 + 1)), (6, .int y0), (0, .ref (lb_ad G 0)), (1, .int x1), (2, .int x2), (3, .int x3), (4, .int x4)]) hx hb dX8_fewestOf_88 hl (k := 6) rfl rfl (by decide) rfl (fun ls hl => ?_)
        refine lv_goto (tgt := 26) hx hb dX8_fewestOf_91 (by decide) ?_
        exact hc26 x1 x2 x3 x4 (x5 + 1) q78.2 _ _ _ h hW (lv_sub hl [2, 3, 4, 5, 6, 0] rfl)
      · have h := (if_neg c81).symm.trans h
        refine lv_iload hx hb dX8_fewestOf_84 (lv_at hl 6 rfl) ?_
        refine lv_istore (lv' := [(4, .int x5), (6, .int y0), (0, .ref (lb_ad G 0)), (1, .int x1), (2, .int x2), (3, .int x3), (5, .int x5)]) hx hb dX8_fewestOf_86 hl (by decide) rfl (fun ls hl => ?_)
        refine lv_iinc (v := (x5 + 1)) (lv' := [(5, .int (x5 + 1)), (4, .int x5), (6, .int y0), (0, .ref (lb_ad G 0)), (1, .int x1), (2, .int x2), (3, .int x3)]) hx hb dX8_fewestOf_88 hl (k := 6) rfl rfl (by decide) rfl (fun ls hl => ?_)
        refine lv_goto (tgt := 26) hx hb dX8_fewestOf_91 (by decide) ?_
        exact hc26 x1 x2 x3 x5 (x5 + 1) q78.2 _ _ _ h hW (lv_sub hl [3, 4, 5, 6, 1, 0] rfl)
def f_X8_fewestOf_52 (kc26 : Int32 → Int32 → Int32 → Int32 → Int32 → lb_Mem → Option (Int32 × lb_Mem)) (x1 : Int32) (x2 : Int32) (x3 : Int32) (x4 : Int32) (x5 : Int32) (σ : lb_Mem) : Option (Int32 × lb_Mem) := f_X8_fewestOf_57 kc26 x1 x2 x3 x4 x5 σ (1 : Int32)
set_option maxRecDepth 20000 in
set_option maxHeartbeats 4000000 in
theorem w_X8_fewestOf_52 {p : Program} {l : Launch} {e : Env} {s : State} {m : MethodId} {args : Array Value} {below : List Frame} {meth : Method} {c : Code} {G : lb_G} {qr : (Int32 × lb_Mem)} (X : lb_C G p s m args meth c cX8_fewestOf 7 RX8 (some .int)) {kc26 : Int32 → Int32 → Int32 → Int32 → Int32 → lb_Mem → Option (Int32 × lb_Mem)} (hc26 : ∀ (x1 : Int32) (x2 : Int32) (x3 : Int32) (x4 : Int32) (x5 : Int32) (σ : lb_Mem) (H : Heap) (locs : List Loc) (ls : Array Slot), kc26 x1 x2 x3 x4 x5 σ = some qr → lb_W G s σ H locs → lv_has ls 7 [(0, .ref (lb_ad G 0)), (1, .int x1), (2, .int x2), (3, .int x3), (4, .int x4), (5, .int x5)] → W p l e rmX8_fewestOf s m args below meth c H locs 0 0 (MQ below (lb_QI G qr.1 qr.2) args s 0 0 (lb_A G)) (F0 m 26 ls [])) : ∀ (x1 : Int32) (x2 : Int32) (x3 : Int32) (x4 : Int32) (x5 : Int32) (σ : lb_Mem) (H : Heap) (locs : List Loc) (ls : Array Slot), f_X8_fewestOf_52 kc26 x1 x2 x3 x4 x5 σ = some qr → lb_W G s σ H locs → lv_has ls 7 [(0, .ref (lb_ad G 0)), (1, .int x1), (2, .int x2), (3, .int x3), (4, .int x4), (5, .int x5)] → W p l e rmX8_fewestOf s m args below meth c H locs 0 0 (MQ below (lb_QI G qr.1 qr.2) args s 0 0 (lb_A G)) (F0 m 52 ls []) := by
  have hx := X.1
  have hb := X.2.1
  intro x1 x2 x3 x4 x5 σ H locs ls h hW hl
  have h : (f_X8_fewestOf_57 kc26 x1 x2 x3 x4 x5 σ (1 : Int32)) = some qr := h
  refine lv_iconst (v := 1) hx hb dX8_fewestOf_52 rfl ?_
  refine lv_goto (tgt := 57) hx hb dX8_fewestOf_53 (by decide) ?_
  exact w_X8_fewestOf_57 X hc26 x1 x2 x3 x4 x5 σ (1 : Int32) _ _ _ h hW (lv_sub hl [0, 1, 2, 3, 4, 5] rfl)
def f_X8_fewestOf_26 : Nat → Int32 → Int32 → Int32 → Int32 → Int32 → lb_Mem → Option (Int32 × lb_Mem)
  | 0, _, _, _, _, _, _ => none
  | n + 1, x1, x2, x3, x4, x5, σ => if x3 < x5 then some (x4, σ) else if x4 = (-9 : Int32) then f_X8_fewestOf_52 (fun (x1 : Int32) (x2 : Int32) (x3 : Int32) (x4 : Int32) (x5 : Int32) (σ : lb_Mem) => f_X8_fewestOf_26 n x1 x2 x3 x4 x5 σ) x1 x2 x3 x4 x5 σ else if (f_J6_bitCount_0f7a4 x4) ≤ (f_J6_bitCount_0f7a4 x5) then f_X8_fewestOf_57 (fun (x1 : Int32) (x2 : Int32) (x3 : Int32) (x4 : Int32) (x5 : Int32) (σ : lb_Mem) => f_X8_fewestOf_26 n x1 x2 x3 x4 x5 σ) x1 x2 x3 x4 x5 σ (0 : Int32) else f_X8_fewestOf_52 (fun (x1 : Int32) (x2 : Int32) (x3 : Int32) (x4 : Int32) (x5 : Int32) (σ : lb_Mem) => f_X8_fewestOf_26 n x1 x2 x3 x4 x5 σ) x1 x2 x3 x4 x5 σ
set_option maxRecDepth 20000 in
set_option maxHeartbeats 4000000 in
theorem w_X8_fewestOf_26 {p : Program} {l : Launch} {e : Env} {s : State} {m : MethodId} {args : Array Value} {below : List Frame} {meth : Method} {c : Code} {G : lb_G} {qr : (Int32 × lb_Mem)} (X : lb_C G p s m args meth c cX8_fewestOf 7 RX8 (some .int)) : ∀ (n : Nat) (x1 : Int32) (x2 : Int32) (x3 : Int32) (x4 : Int32) (x5 : Int32) (σ : lb_Mem) (H : Heap) (locs : List Loc) (ls : Array Slot), f_X8_fewestOf_26 n x1 x2 x3 x4 x5 σ = some qr → lb_W G s σ H locs → lv_has ls 7 [(0, .ref (lb_ad G 0)), (1, .int x1), (2, .int x2), (3, .int x3), (4, .int x4), (5, .int x5)] → W p l e rmX8_fewestOf s m args below meth c H locs 0 0 (MQ below (lb_QI G qr.1 qr.2) args s 0 0 (lb_A G)) (F0 m 26 ls []) := by
  have hx := X.1
  have hb := X.2.1
  intro n
  induction n with
  | zero => intro x1 x2 x3 x4 x5 σ H locs ls h hW hl; exact absurd h (fun z => by cases z)
  | succ n ih =>
    intro x1 x2 x3 x4 x5 σ H locs ls h hW hl
    have h : (if x3 < x5 then some (x4, σ) else if x4 = (-9 : Int32) then f_X8_fewestOf_52 (fun (x1 : Int32) (x2 : Int32) (x3 : Int32) (x4 : Int32) (x5 : Int32) (σ : lb_Mem) => f_X8_fewestOf_26 n x1 x2 x3 x4 x5 σ) x1 x2 x3 x4 x5 σ else if (f_J6_bitCount_0f7a4 x4) ≤ (f_J6_bitCount_0f7a4 x5) then f_X8_fewestOf_57 (fun (x1 : Int32) (x2 : Int32) (x3 : Int32) (x4 : Int32) (x5 : Int32) (σ : lb_Mem) => f_X8_fewestOf_26 n x1 x2 x3 x4 x5 σ) x1 x2 x3 x4 x5 σ (0 : Int32) else f_X8_fewestOf_52 (fun (x1 : Int32) (x2 : Int32) (x3 : Int32) (x4 : Int32) (x5 : Int32) (σ : lb_Mem) => f_X8_fewestOf_26 n x1 x2 x3 x4 x5 σ) x1 x2 x3 x4 x5 σ) = some qr := h
    refine lv_iload hx hb dX8_fewestOf_26 (lv_at hl 5 rfl) ?_
    refine lv_iload_n hx hb dX8_fewestOf_28 rfl (lv_at hl 3 rfl) ?_
    refine lv_icmp_gt (tgt := 94) hx hb dX8_fewestOf_29 (by decide) (fun c29 => ?_) (fun c29 => ?_)
    · have h := (if_pos c29).symm.trans h
      refine lv_iload hx hb dX8_fewestOf_94 (lv_at hl 4 rfl) ?_
      obtain rfl := Option.some.inj h
      exact lb_iret X hW dX8_fewestOf_96
    · have h := (if_neg c29).symm.trans h
      refine lv_iload hx hb dX8_fewestOf_32 (lv_at hl 4 rfl) ?_
      refine lv_bipush (v := -9) hx hb dX8_fewestOf_34 rfl ?_
      refine lv_icmp_eq (tgt := 52) hx hb dX8_fewestOf_36 (by decide) (fun c36 => ?_) (fun c36 => ?_)
      · have h := (if_pos c36).symm.trans h
        exact w_X8_fewestOf_52 X ih x1 x2 x3 x4 x5 σ _ _ _ h hW (lv_sub hl [0, 1, 2, 3, 4, 5] rfl)
      · have h := (if_neg c36).symm.trans h
        refine lv_iload hx hb dX8_fewestOf_39 (lv_at hl 5 rfl) ?_
        refine rc_X8_193 X hW x5 ⟨⟨rfl, rfl⟩, Nat.le_of_ble_eq_true rfl, Nat.le_of_ble_eq_true rfl⟩ hl.1 (Nat.le_of_ble_eq_true rfl) dX8_fewestOf_41 ⟨Nat.zero_le _, Nat.zero_le _⟩ (fun H locs hW => ?_)
        refine lv_iload hx hb dX8_fewestOf_44 (lv_at hl 4 rfl) ?_
        refine rc_X8_193 X hW x4 ⟨⟨rfl, rfl⟩, Nat.le_of_ble_eq_true rfl, Nat.le_of_ble_eq_true rfl⟩ hl.1 (Nat.le_of_ble_eq_true rfl) dX8_fewestOf_46 ⟨Nat.zero_le _, Nat.zero_le _⟩ (fun H locs hW => ?_)
        refine lv_icmp_ge (tgt := 56) hx hb dX8_fewestOf_49 (by decide) (fun c49 => ?_) (fun c49 => ?_)
        · have h := (if_pos c49).symm.trans h
          refine lv_iconst (v := 0) hx hb dX8_fewestOf_56 rfl ?_
          exact w_X8_fewestOf_57 X ih x1 x2 x3 x4 x5 σ (0 : Int32) _ _ _ h hW (lv_sub hl [0, 1, 2, 3, 4, 5] rfl)
        · have h := (if_neg c49).symm.trans h
          exact w_X8_fewestOf_52 X ih x1 x2 x3 x4 x5 σ _ _ _ h hW (lv_sub hl [0, 1, 2, 3, 4, 5] rfl)
def f_X8_fewestOf (x1 : Int32) (x2 : Int32) (σ : lb_Mem) : Option (Int32 × lb_Mem) := (f_X7_potsOf σ 1 x1).bind (fun q5 => (f_X7_honestPots σ 1).bind (fun q12 => lb_let ((q5 &&& (q12 ^^^ (-1 : Int32)))) (fun v18 : Int32 => f_X8_fewestOf_26 lb_N x1 x2 v18 (-9 : Int32) (0 : Int32) σ)))
set_option maxRecDepth 20000 in
set_option maxHeartbeats 4000000 in
theorem m_X8_fewestOf (l : Launch) (G : lb_G) (σ : lb_Mem) (x1 : Int32) (x2 : Int32) (qr : (Int32 × lb_Mem)) (h : f_X8_fewestOf x1 x2 σ = some qr) : lb_M l yX8_fewestOf cX8_fewestOf 7 (some .int) rmX8_fewestOf [.ref (lb_ad G 0), .int x1, .int x2] G σ (lb_QI G qr.1 qr.2) := by
  refine lb_start RX8 (by decide +kernel) rfl (Nat.le_of_ble_eq_true rfl) (fun p e s m below meth c X hW ls hl => ?_)
  have hx := X.1
  have hb := X.2.1
  have hl : lv_has ls 7 [(0, .ref (lb_ad G 0)), (1, .int x1), (2, .int x2)] := hl
  have h : ((f_X7_potsOf σ 1 x1).bind (fun q5 => (f_X7_honestPots σ 1).bind (fun q12 => lb_let ((q5 &&& (q12 ^^^ (-1 : Int32)))) (fun v18 : Int32 => f_X8_fewestOf_26 lb_N x1 x2 v18 (-9 : Int32) (0 : Int32) σ)))) = some qr := h
  skip
  refine lv_aload_n hx hb dX8_fewestOf_0 rfl (lv_at hl 0 rfl) ?_
  refine rg_X8_10 X hW dX8_fewestOf_1 ?_
  refine lv_iload_n hx hb dX8_fewestOf_4 rfl (lv_at hl 1 rfl) ?_
  obtain ⟨q5, e5, h⟩ := lb_bind h
  refine rc_X8_119 X hW lb_V1 e5 ⟨⟨rfl, rfl⟩, Nat.le_of_ble_eq_true rfl, Nat.le_of_ble_eq_true rfl⟩ hl.1 (Nat.le_of_ble_eq_true rfl) dX8_fewestOf_5 ⟨Nat.zero_le _, Nat.zero_le _⟩ (fun H locs hW => ?_)
  refine lv_aload_n hx hb dX8_fewestOf_8 rfl (lv_at hl 0 rfl) ?_
  refine rg_X8_10 X hW dX8_fewestOf_9 ?_
  obtain ⟨q12, e12, h⟩ := lb_bind h
  refine rc_X8_159 X hW lb_V1 e12 ⟨⟨rfl, rfl⟩, Nat.le_of_ble_eq_true rfl, Nat.le_of_ble_eq_true rfl⟩ hl.1 (Nat.le_of_ble_eq_true rfl) dX8_fewestOf_12 ⟨Nat.zero_le _, Nat.zero_le _⟩ (fun H locs hW => ?_)
  refine lv_iconst (v := -1) hx hb dX8_fewestOf_15 rfl ?_
  refine lv_ixor hx hb dX8_fewestOf_16 ?_
  refine lv_iand hx hb dX8_fewestOf_17 ?_
  refine lv_topi (fun v18 e18 => ?_)
  have h := lb_letI e18 h
  refine lv_istore_n (lv' := [(3, .int v18), (0, .ref (lb_ad G 0)), (1, .int x1), (2, .int x2)]) hx hb dX8_fewestOf_18 rfl hl (by decide) rfl (fun ls hl => ?_)
  refine lv_bipush (v := -9) hx hb dX8_fewestOf_19 rfl ?_
  refine lv_istore (lv' := [(4, .int (-9 : Int32)), (3, .int v18), (0, .ref (lb_ad G 0)), (1, .int x1), (2, .int x2)]) hx hb dX8_fewestOf_21 hl (by decide) rfl (fun ls hl => ?_)
  refine lv_iconst (v := 0) hx hb dX8_fewestOf_23 rfl ?_
  refine lv_istore (lv' := [(5, .int (0 : Int32)), (4, .int (-9 : Int32)), (3, .int v18), (0, .ref (lb_ad G 0)), (1, .int x1), (2, .int x2)]) hx hb dX8_fewestOf_24 hl (by decide) rfl (fun ls hl => ?_)
  exact w_X8_fewestOf_26 X lb_N x1 x2 v18 (-9 : Int32) (0 : Int32) σ _ _ _ h hW (lv_sub hl [3, 4, 5, 2, 1, 0] rfl)
theorem rc_X8_190 {p : Program} {l : Launch} {e : Env} {R : Room} {s : State} {m : MethodId} {args : Array Value} {below : List Frame} {meth : Method} {c : Code} {H : Heap} {locs : List Loc} {cells slots : Nat} {Q : State → Prop} {cc : ByteArray} {pc nL : Nat} {ls : Array Slot} {rest : List Value} {G : lb_G} {σ : lb_Mem} {ret : Option FieldType} (X : lb_C G p s m args meth c cc nL RX8 ret) (hW : lb_W G s σ H locs) {x1 : Int32} {x2 : Int32} {qr : (Int32 × lb_Mem)} (h : f_X8_fewestOf x1 x2 σ = some qr) (hR : lb_room rmX8_fewestOf R 7) (hls : ls.size = nL) (hrest : (rest.map fun v => v.category).sum ≤ 8) (d : decode cc pc = .ok (.invokevirtual 190, 3)) (hcap : cells ≤ R.cells ∧ slots ≤ R.slots) (kk : ∀ (H1 : Heap) (locs1 : List Loc), lb_W G s qr.2 H1 locs1 → W p l e R s m args below meth c H1 locs1 cells slots Q (F0 m (pc + 3) ls (.int qr.1 :: rest))) : W p l e R s m args below meth c H locs cells slots Q (F0 m pc ls (.int x2 :: .int x1 :: .ref (lb_ad G 0) :: rest)) :=
  lb_goI hW (lb_runV (As := [.int x1, .int x2]) X hW (m_X8_fewestOf l G σ x1 x2 qr h) (n := 2) ⟨qw_636, qw_43, qw_639, by decide +kernel⟩ hR qw_638 qw_9 lb_is0 rfl hls hrest d hcap) kk
abbrev rmX8_fewest : Room := { frames := 7, cells := 0, slots := 0, locals := 169 }
def f_X8_fewest_23 : Nat → Int32 → Int32 → Int32 → lb_Mem → Option (Int32 × lb_Mem)
  | 0, _, _, _, _ => none
  | n + 1, x1, x3, x4, σ => if (σ 1 10) ≤ x4 then some (x3, σ) else (f_X8_fewestOf x4 x1 σ).bind (fun q39 => if q39.1 = (-9 : Int32) then some ((-9 : Int32), q39.2) else lb_let ((x3 ||| q39.1)) (fun v58 : Int32 => f_X8_fewest_23 n x1 v58 (x4 + 1) q39.2))
set_option maxRecDepth 20000 in
set_option maxHeartbeats 4000000 in
theorem w_X8_fewest_23 {p : Program} {l : Launch} {e : Env} {s : State} {m : MethodId} {args : Array Value} {below : List Frame} {meth : Method} {c : Code} {G : lb_G} {qr : (Int32 × lb_Mem)} (X : lb_C G p s m args meth c cX8_fewest 6 RX8 (some .int)) : ∀ (n : Nat) (x1 : Int32) (x3 : Int32) (x4 : Int32) (σ : lb_Mem) (H : Heap) (locs : List Loc) (ls : Array Slot), f_X8_fewest_23 n x1 x3 x4 σ = some qr → lb_W G s σ H locs → lv_has ls 6 [(0, .ref (lb_ad G 0)), (1, .int x1), (3, .int x3), (4, .int x4)] → W p l e rmX8_fewest s m args below meth c H locs 0 0 (MQ below (lb_QI G qr.1 qr.2) args s 0 0 (lb_A G)) (F0 m 23 ls []) := by
  have hx := X.1
  have hb := X.2.1
  intro n
  induction n with
  | zero => intro x1 x3 x4 σ H locs ls h hW hl; exact absurd h (fun z => by cases z)
  | succ n ih =>
    intro x1 x3 x4 σ H locs ls h hW hl
    have h : (if (σ 1 10) ≤ x4 then some (x3, σ) else (f_X8_fewestOf x4 x1 σ).bind (fun q39 => if q39.1 = (-9 : Int32) then some ((-9 : Int32), q39.2) else lb_let ((x3 ||| q39.1)) (fun v58 : Int32 => f_X8_fewest_23 n x1 v58 (x4 + 1) q39.2))) = some qr := h
    refine lv_iload hx hb dX8_fewest_23 (lv_at hl 3 rfl) ?_
    refine lv_aload_n hx hb dX8_fewest_25 rfl (lv_at hl 0 rfl) ?_
    refine rg_X8_10 X hW dX8_fewest_26 ?_
    refine rg_X8_156 X hW lb_V1 dX8_fewest_29 ?_
    refine lv_icmp_ge (tgt := 65) hx hb dX8_fewest_32 (by decide) (fun c32 => ?_) (fun c32 => ?_)
    · have h := (if_pos c32).symm.trans h
      refine lv_iload_n hx hb dX8_fewest_65 rfl (lv_at hl 2 rfl) ?_
      obtain rfl := Option.some.inj h
      exact lb_iret X hW dX8_fewest_66
    · have h := (if_neg c32).symm.trans h
      refine lv_aload_n hx hb dX8_fewest_35 rfl (lv_at hl 0 rfl) ?_
      refine lv_iload hx hb dX8_fewest_36 (lv_at hl 3 rfl) ?_
      refine lv_iload_n hx hb dX8_fewest_38 rfl (lv_at hl 1 rfl) ?_
      obtain ⟨q39, e39, h⟩ := lb_bind h
      refine rc_X8_190 X hW e39 ⟨⟨rfl, rfl⟩, Nat.le_of_ble_eq_true rfl, Nat.le_of_ble_eq_true rfl⟩ hl.1 (Nat.le_of_ble_eq_true rfl) dX8_fewest_39 ⟨Nat.zero_le _, Nat.zero_le _⟩ (fun H locs hW => ?_)
      refine lv_istore (lv' := [(5, .int q39.1), (0, .ref (lb_ad G 0)), (1, .int x1), (3, .int x3), (4, .int x4)]) hx hb dX8_fewest_42 hl (by decide) rfl (fun ls hl => ?_)
      refine lv_iload hx hb dX8_fewest_44 (lv_at hl 0 rfl) ?_
      refine lv_bipush (v := -9) hx hb dX8_fewest_46 rfl ?_
      refine lv_icmp_ne (tgt := 54) hx hb dX8_fewest_48 (by decide) (fun c48 => ?_) (fun c48 => ?_)
      · have h := (if_neg c48).symm.trans h
        refine lv_iload_n hx hb dX8_fewest_54 rfl (lv_at hl 3 rfl) ?_
        refine lv_iload hx hb dX8_fewest_55 (lv_at hl 0 rfl) ?_
        refine lv_ior hx hb dX8_fewest_57 ?_
        refine lv_topi (fun v58 e58 => ?_)
        have h := lb_letI e58 h
        refine lv_istore_n (lv' := [(3, .int v58), (5, .int q39.1), (0, .ref (lb_ad G 0)), (1, .int x1), (4, .int x4)]) hx hb dX8_fewest_58 rfl hl (by decide) rfl (fun ls hl => ?_)
        refine lv_iinc (v := (x4 + 1)) (lv' := [(4, .int (x4 + 1)), (3, .int v58), (5, .int q39.1), (0, .ref (lb_ad G 0)), (1, .int x1)]) hx hb dX8_fewest_59 hl (k := 4) rfl rfl (by decide) rfl (fun ls hl => ?_)
        refine lv_goto (tgt := 23) hx hb dX8_fewest_62 (by decide) ?_
        exact ih x1 v58 (x4 + 1) q39.2 _ _ _ h hW (lv_sub hl [3, 4, 1, 0] rfl)
      · have h := (if_pos c48).symm.trans h
        refine lv_bipush (v := -9) hx hb dX8_fewest_51 rfl ?_
        obtain rfl := Option.some.inj h
        exact lb_iret X hW dX8_fewest_53
def f_X8_fewest (x1 : Int32) (σ : lb_Mem) : Option (Int32 × lb_Mem) := lb_let ((f_X8_within x1 (0 : Int32) (20 : Int32))) (fun v7 : Int32 => if v7 = 0 then f_X8_fewest_23 lb_N x1 (0 : Int32) (0 : Int32) σ else (f_X8_refuse v7 σ).bind (fun q14 => some (q14.1, q14.2)))
set_option maxRecDepth 20000 in
set_option maxHeartbeats 4000000 in
theorem m_X8_fewest (l : Launch) (G : lb_G) (σ : lb_Mem) (x1 : Int32) (qr : (Int32 × lb_Mem)) (h : f_X8_fewest x1 σ = some qr) : lb_M l yX8_fewest cX8_fewest 6 (some .int) rmX8_fewest [.ref (lb_ad G 0), .int x1] G σ (lb_QI G qr.1 qr.2) := by
  refine lb_start RX8 (by decide +kernel) rfl (Nat.le_of_ble_eq_true rfl) (fun p e s m below meth c X hW ls hl => ?_)
  have hx := X.1
  have hb := X.2.1
  have hl : lv_has ls 6 [(0, .ref (lb_ad G 0)), (1, .int x1)] := hl
  have h : (lb_let ((f_X8_within x1 (0 : Int32) (20 : Int32))) (fun v7 : Int32 => if v7 = 0 then f_X8_fewest_23 lb_N x1 (0 : Int32) (0 : Int32) σ else (f_X8_refuse v7 σ).bind (fun q14 => some (q14.1, q14.2)))) = some qr := h
  skip
  refine lv_iload_n hx hb dX8_fewest_0 rfl (lv_at hl 1 rfl) ?_
  refine lv_iconst (v := 0) hx hb dX8_fewest_1 rfl ?_
  refine lv_bipush (v := 20) hx hb dX8_fewest_2 rfl ?_
  refine rc_X8_44 X hW x1 (0 : Int32) (20 : Int32) ⟨⟨rfl, rfl⟩, Nat.le_of_ble_eq_true rfl, Nat.le_of_ble_eq_true rfl⟩ hl.1 (Nat.le_of_ble_eq_true rfl) dX8_fewest_4 ⟨Nat.zero_le _, Nat.zero_le _⟩ (fun H locs hW => ?_)
  refine lv_topi (fun v7 e7 => ?_)
  have h := lb_letI e7 h
  refine lv_istore_n (lv' := [(2, .int v7), (0, .ref (lb_ad G 0)), (1, .int x1)]) hx hb dX8_fewest_7 rfl hl (by decide) rfl (fun ls hl => ?_)
  refine lv_iload_n hx hb dX8_fewest_8 rfl (lv_at hl 0 rfl) ?_
  refine lv_if_eq (tgt := 18) hx hb dX8_fewest_9 (by decide) (fun c9 => ?_) (fun c9 => ?_)
  · have h := (if_pos c9).symm.trans h
    refine lv_iconst (v := 0) hx hb dX8_fewest_18 rfl ?_
    refine lv_istore_n (lv' := [(3, .int (0 : Int32)), (2, .int v7), (0, .ref (lb_ad G 0)), (1, .int x1)]) hx hb dX8_fewest_19 rfl hl (by decide) rfl (fun ls hl => ?_)
    refine lv_iconst (v := 0) hx hb dX8_fewest_20 rfl ?_
    refine lv_istore (lv' := [(4, .int (0 : Int32)), (3, .int (0 : Int32)), (2, .int v7), (0, .ref (lb_ad G 0)), (1, .int x1)]) hx hb dX8_fewest_21 hl (by decide) rfl (fun ls hl => ?_)
    exact w_X8_fewest_23 X lb_N x1 (0 : Int32) (0 : Int32) σ _ _ _ h hW (lv_sub hl [3, 4, 1, 0] rfl)
  · have h := (if_neg c9).symm.trans h
    refine lv_aload_n hx hb dX8_fewest_12 rfl (lv_at hl 1 rfl) ?_
    refine lv_iload_n hx hb dX8_fewest_13 rfl (lv_at hl 0 rfl) ?_
    obtain ⟨q14, e14, h⟩ := lb_bind h
    refine rc_X8_55 X hW e14 ⟨⟨rfl, rfl⟩, Nat.le_of_ble_eq_true rfl, Nat.le_of_ble_eq_true rfl⟩ hl.1 (Nat.le_of_ble_eq_true rfl) dX8_fewest_14 ⟨Nat.zero_le _, Nat.zero_le _⟩ (fun H locs hW => ?_)
    obtain rfl := Option.some.inj h
    exact lb_iret X hW dX8_fewest_17
abbrev rmX8_graceBehind : Room := { frames := 5, cells := 0, slots := 0, locals := 119 }
def f_X8_graceBehind (x1 : Int32) (x2 : Int32) (σ : lb_Mem) : Option (Int32 × lb_Mem) := (f_X7_become 17 1 σ).bind (fun s8 => (f_X7_passFor 17 x1 x2 s8).bind (fun s17 => lb_chk (lb_ix x1 5) (some ((s17 32 x1.toNatClampNeg), s17))))
set_option maxRecDepth 20000 in
set_option maxHeartbeats 4000000 in
theorem m_X8_graceBehind (l : Launch) (G : lb_G) (σ : lb_Mem) (x1 : Int32) (x2 : Int32) (qr : (Int32 × lb_Mem)) (h : f_X8_graceBehind x1 x2 σ = some qr) : lb_M l yX8_graceBehind cX8_graceBehind 3 (some .int) rmX8_graceBehind [.ref (lb_ad G 0), .int x1, .int x2] G σ (lb_QI G qr.1 qr.2) := by
  refine lb_start RX8 (by decide +kernel) rfl (Nat.le_of_ble_eq_true rfl) (fun p e s m below meth c X hW ls hl => ?_)
  have hx := X.1
  have hb := X.2.1
  have hl : lv_has ls 3 [(0, .ref (lb_ad G 0)), (1, .int x1), (2, .int x2)] := hl
  have h : ((f_X7_become 17 1 σ).bind (fun s8 => (f_X7_passFor 17 x1 x2 s8).bind (fun s17 => lb_chk (lb_ix x1 5) (some ((s17 32 x1.toNatClampNeg), s17))))) = some qr := h
  skip
  refine lv_aload_n hx hb dX8_graceBehind_0 rfl (lv_at hl 0 rfl) ?_
  refine rg_X8_16 X hW dX8_graceBehind_1 ?_
  refine lv_aload_n hx hb dX8_graceBehind_4 rfl (lv_at hl 0 rfl) ?_
  refine rg_X8_10 X hW dX8_graceBehind_5 ?_
  obtain ⟨s8, e8, h⟩ := lb_bind h
  refine rc_X8_67 X hW lb_V17 lb_V1 e8 ⟨⟨rfl, rfl⟩, Nat.le_of_ble_eq_true rfl, Nat.le_of_ble_eq_true rfl⟩ hl.1 (Nat.le_of_ble_eq_true rfl) dX8_graceBehind_8 ⟨Nat.zero_le _, Nat.zero_le _⟩ (fun H locs hW => ?_)
  refine lv_aload_n hx hb dX8_graceBehind_11 rfl (lv_at hl 0 rfl) ?_
  refine rg_X8_16 X hW dX8_graceBehind_12 ?_
  refine lv_iload_n hx hb dX8_graceBehind_15 rfl (lv_at hl 1 rfl) ?_
  refine lv_iload_n hx hb dX8_graceBehind_16 rfl (lv_at hl 2 rfl) ?_
  obtain ⟨s17, e17, h⟩ := lb_bind h
  refine rc_X8_146 X hW lb_V17 e17 ⟨⟨rfl, rfl⟩, Nat.le_of_ble_eq_true rfl, Nat.le_of_ble_eq_true rfl⟩ hl.1 (Nat.le_of_ble_eq_true rfl) dX8_graceBehind_17 ⟨Nat.zero_le _, Nat.zero_le _⟩ (fun H locs hW => ?_)
  refine lv_aload_n hx hb dX8_graceBehind_20 rfl (lv_at hl 0 rfl) ?_
  refine rg_X8_16 X hW dX8_graceBehind_21 ?_
  refine rg_X8_113 (k := 32) X hW lb_V17 rfl dX8_graceBehind_24 ?_
  refine lv_iload_n hx hb dX8_graceBehind_27 rfl (lv_at hl 1 rfl) ?_
  obtain ⟨i28, h⟩ := lb_chk_in h
  refine lb_ild X hW (show lb_ar 32 = 4 + 1 from rfl) i28 dX8_graceBehind_28 ?_
  obtain rfl := Option.some.inj h
  exact lb_iret X hW dX8_graceBehind_29
abbrev rmX8_ownersGraceWithout : Room := { frames := 5, cells := 0, slots := 0, locals := 119 }
def f_X8_ownersGraceWithout (x1 : Int32) (x2 : Int32) (σ : lb_Mem) : Option (Int32 × lb_Mem) := lb_chk (lb_ix x1 8) (lb_let ((σ 14 x1.toNatClampNeg)) (fun v9 : Int32 => (f_X7_become 17 1 σ).bind (fun s18 => lb_chk (lb_ix x1 8) (lb_let (lb_sto s18 29 x1.toNatClampNeg (0 : Int32)) (fun s30 : lb_Mem => (f_X7_passFor 17 v9 x2 s30).bind (fun s37 => lb_chk (lb_ix v9 5) (some ((s37 32 v9.toNatClampNeg), s37))))))))
set_option maxRecDepth 20000 in
set_option maxHeartbeats 4000000 in
theorem m_X8_ownersGraceWithout (l : Launch) (G : lb_G) (σ : lb_Mem) (x1 : Int32) (x2 : Int32) (qr : (Int32 × lb_Mem)) (h : f_X8_ownersGraceWithout x1 x2 σ = some qr) : lb_M l yX8_ownersGraceWithout cX8_ownersGraceWithout 4 (some .int) rmX8_ownersGraceWithout [.ref (lb_ad G 0), .int x1, .int x2] G σ (lb_QI G qr.1 qr.2) := by
  refine lb_start RX8 (by decide +kernel) rfl (Nat.le_of_ble_eq_true rfl) (fun p e s m below meth c X hW ls hl => ?_)
  have hx := X.1
  have hb := X.2.1
  have hl : lv_has ls 4 [(0, .ref (lb_ad G 0)), (1, .int x1), (2, .int x2)] := hl
  have h : (lb_chk (lb_ix x1 8) (lb_let ((σ 14 x1.toNatClampNeg)) (fun v9 : Int32 => (f_X7_become 17 1 σ).bind (fun s18 => lb_chk (lb_ix x1 8) (lb_let (lb_sto s18 29 x1.toNatClampNeg (0 : Int32)) (fun s30 : lb_Mem => (f_X7_passFor 17 v9 x2 s30).bind (fun s37 => lb_chk (lb_ix v9 5) (some ((s37 32 v9.toNatClampNeg), s37))))))))) = some qr := h
  skip
  refine lv_aload_n hx hb dX8_ownersGraceWithout_0 rfl (lv_at hl 0 rfl) ?_
  refine rg_X8_10 X hW dX8_ownersGraceWithout_1 ?_
  refine rg_X8_104 (k := 14) X hW lb_V1 rfl dX8_ownersGraceWithout_4 ?_
  refine lv_iload_n hx hb dX8_ownersGraceWithout_7 rfl (lv_at hl 1 rfl) ?_
  obtain ⟨i8, h⟩ := lb_chk_in h
  refine lb_ild X hW (show lb_ar 14 = 7 + 1 from rfl) i8 dX8_ownersGraceWithout_8 ?_
  refine lv_topi (fun v9 e9 => ?_)
  have h := lb_letI e9 h
  refine lv_istore_n (lv' := [(3, .int v9), (0, .ref (lb_ad G 0)), (1, .int x1), (2, .int x2)]) hx hb dX8_ownersGraceWithout_9 rfl hl (by decide) rfl (fun ls hl => ?_)
  refine lv_aload_n hx hb dX8_ownersGraceWithout_10 rfl (lv_at hl 1 rfl) ?_
  refine rg_X8_16 X hW dX8_ownersGraceWithout_11 ?_
  refine lv_aload_n hx hb dX8_ownersGraceWithout_14 rfl (lv_at hl 1 rfl) ?_
  refine rg_X8_10 X hW dX8_ownersGraceWithout_15 ?_
  obtain ⟨s18, e18, h⟩ := lb_bind h
  refine rc_X8_67 X hW lb_V17 lb_V1 e18 ⟨⟨rfl, rfl⟩, Nat.le_of_ble_eq_true rfl, Nat.le_of_ble_eq_true rfl⟩ hl.1 (Nat.le_of_ble_eq_true rfl) dX8_ownersGraceWithout_18 ⟨Nat.zero_le _, Nat.zero_le _⟩ (fun H locs hW => ?_)
  refine lv_aload_n hx hb dX8_ownersGraceWithout_21 rfl (lv_at hl 1 rfl) ?_
  refine rg_X8_16 X hW dX8_ownersGraceWithout_22 ?_
  refine rg_X8_101 (k := 29) X hW lb_V17 rfl dX8_ownersGraceWithout_25 ?_
  refine lv_iload_n hx hb dX8_ownersGraceWithout_28 rfl (lv_at hl 2 rfl) ?_
  refine lv_iconst (v := 0) hx hb dX8_ownersGraceWithout_29 rfl ?_
  obtain ⟨i30, h⟩ := lb_chk_in h
  refine lb_ist X hW (show lb_ar 29 = 7 + 1 from rfl) i30 dX8_ownersGraceWithout_30 (fun H locs hW => ?_)
  obtain ⟨s30, e30⟩ : ∃ z, z = lb_sto s18 29 x1.toNatClampNeg (0 : Int32) := ⟨_, rfl⟩
  rw [← e30] at hW
  have h := lb_letI e30 h
  refine lv_aload_n hx hb dX8_ownersGraceWithout_31 rfl (lv_at hl 1 rfl) ?_
  refine rg_X8_16 X hW dX8_ownersGraceWithout_32 ?_
  refine lv_iload_n hx hb dX8_ownersGraceWithout_35 rfl (lv_at hl 0 rfl) ?_
  refine lv_iload_n hx hb dX8_ownersGraceWithout_36 rfl (lv_at hl 3 rfl) ?_
  obtain ⟨s37, e37, h⟩ := lb_bind h
  refine rc_X8_146 X hW lb_V17 e37 ⟨⟨rfl, rfl⟩, Nat.le_of_ble_eq_true rfl, Nat.le_of_ble_eq_true rfl⟩ hl.1 (Nat.le_of_ble_eq_true rfl) dX8_ownersGraceWithout_37 ⟨Nat.zero_le _, Nat.zero_le _⟩ (fun H locs hW => ?_)
  refine lv_aload_n hx hb dX8_ownersGraceWithout_40 rfl (lv_at hl 1 rfl) ?_
  refine rg_X8_16 X hW dX8_ownersGraceWithout_41 ?_
  refine rg_X8_113 (k := 32) X hW lb_V17 rfl dX8_ownersGraceWithout_44 ?_
  refine lv_iload_n hx hb dX8_ownersGraceWithout_47 rfl (lv_at hl 0 rfl) ?_
  obtain ⟨i48, h⟩ := lb_chk_in h
  refine lb_ild X hW (show lb_ar 32 = 4 + 1 from rfl) i48 dX8_ownersGraceWithout_48 ?_
  obtain rfl := Option.some.inj h
  exact lb_iret X hW dX8_ownersGraceWithout_49
theorem rc_X8_202 {p : Program} {l : Launch} {e : Env} {R : Room} {s : State} {m : MethodId} {args : Array Value} {below : List Frame} {meth : Method} {c : Code} {H : Heap} {locs : List Loc} {cells slots : Nat} {Q : State → Prop} {cc : ByteArray} {pc nL : Nat} {ls : Array Slot} {rest : List Value} {G : lb_G} {σ : lb_Mem} {ret : Option FieldType} (X : lb_C G p s m args meth c cc nL RX8 ret) (hW : lb_W G s σ H locs) {x1 : Int32} {x2 : Int32} {qr : (Int32 × lb_Mem)} (h : f_X8_graceBehind x1 x2 σ = some qr) (hR : lb_room rmX8_graceBehind R 3) (hls : ls.size = nL) (hrest : (rest.map fun v => v.category).sum ≤ 8) (d : decode cc pc = .ok (.invokevirtual 202, 3)) (hcap : cells ≤ R.cells ∧ slots ≤ R.slots) (kk : ∀ (H1 : Heap) (locs1 : List Loc), lb_W G s qr.2 H1 locs1 → W p l e R s m args below meth c H1 locs1 cells slots Q (F0 m (pc + 3) ls (.int qr.1 :: rest))) : W p l e R s m args below meth c H locs cells slots Q (F0 m pc ls (.int x2 :: .int x1 :: .ref (lb_ad G 0) :: rest)) :=
  lb_goI hW (lb_runV (As := [.int x1, .int x2]) X hW (m_X8_graceBehind l G σ x1 x2 qr h) (n := 2) ⟨qw_654, qw_43, qw_657, by decide +kernel⟩ hR qw_656 qw_11 lb_is0 rfl hls hrest d hcap) kk
theorem rc_X8_205 {p : Program} {l : Launch} {e : Env} {R : Room} {s : State} {m : MethodId} {args : Array Value} {below : List Frame} {meth : Method} {c : Code} {H : Heap} {locs : List Loc} {cells slots : Nat} {Q : State → Prop} {cc : ByteArray} {pc nL : Nat} {ls : Array Slot} {rest : List Value} {G : lb_G} {σ : lb_Mem} {ret : Option FieldType} (X : lb_C G p s m args meth c cc nL RX8 ret) (hW : lb_W G s σ H locs) {x1 : Int32} {x2 : Int32} {qr : (Int32 × lb_Mem)} (h : f_X8_ownersGraceWithout x1 x2 σ = some qr) (hR : lb_room rmX8_ownersGraceWithout R 4) (hls : ls.size = nL) (hrest : (rest.map fun v => v.category).sum ≤ 8) (d : decode cc pc = .ok (.invokevirtual 205, 3)) (hcap : cells ≤ R.cells ∧ slots ≤ R.slots) (kk : ∀ (H1 : Heap) (locs1 : List Loc), lb_W G s qr.2 H1 locs1 → W p l e R s m args below meth c H1 locs1 cells slots Q (F0 m (pc + 3) ls (.int qr.1 :: rest))) : W p l e R s m args below meth c H locs cells slots Q (F0 m pc ls (.int x2 :: .int x1 :: .ref (lb_ad G 0) :: rest)) :=
  lb_goI hW (lb_runV (As := [.int x1, .int x2]) X hW (m_X8_ownersGraceWithout l G σ x1 x2 qr h) (n := 2) ⟨qw_658, qw_43, qw_661, by decide +kernel⟩ hR qw_660 qw_12 lb_is0 rfl hls hrest d hcap) kk
abbrev rmX8_warn : Room := { frames := 6, cells := 0, slots := 0, locals := 142 }
def f_X8_warn_41 : Nat → Int32 → Int32 → Int32 → Int32 → Int32 → lb_Mem → Option (Int32 × lb_Mem)
  | 0, _, _, _, _, _, _ => none
  | n + 1, x1, x2, x4, x5, x6, σ => if (σ 1 9) ≤ x6 then some (x5, σ) else lb_chk (lb_ix x6 8) (if (σ 14 x6.toNatClampNeg) = x1 then (f_X8_ownersGraceWithout x6 x2 σ).bind (fun q71 => if q71.1 ≤ x4 then f_X8_warn_41 n x1 x2 x4 x5 (x6 + 1) q71.2 else f_X8_warn_41 n x1 x2 q71.1 x6 (x6 + 1) q71.2) else f_X8_warn_41 n x1 x2 x4 x5 (x6 + 1) σ)
set_option maxRecDepth 20000 in
set_option maxHeartbeats 4000000 in
theorem w_X8_warn_41 {p : Program} {l : Launch} {e : Env} {s : State} {m : MethodId} {args : Array Value} {below : List Frame} {meth : Method} {c : Code} {G : lb_G} {qr : (Int32 × lb_Mem)} (X : lb_C G p s m args meth c cX8_warn 8 RX8 (some .int)) : ∀ (n : Nat) (x1 : Int32) (x2 : Int32) (x4 : Int32) (x5 : Int32) (x6 : Int32) (σ : lb_Mem) (H : Heap) (locs : List Loc) (ls : Array Slot), f_X8_warn_41 n x1 x2 x4 x5 x6 σ = some qr → lb_W G s σ H locs → lv_has ls 8 [(0, .ref (lb_ad G 0)), (1, .int x1), (2, .int x2), (4, .int x4), (5, .int x5), (6, .int x6)] → W p l e rmX8_warn s m args below meth c H locs 0 0 (MQ below (lb_QI G qr.1 qr.2) args s 0 0 (lb_A G)) (F0 m 41 ls []) := by
  have hx := X.1
  have hb := X.2.1
  intro n
  induction n with
  | zero => intro x1 x2 x4 x5 x6 σ H locs ls h hW hl; exact absurd h (fun z => by cases z)
  | succ n ih =>
    intro x1 x2 x4 x5 x6 σ H locs ls h hW hl
    have h : (if (σ 1 9) ≤ x6 then some (x5, σ) else lb_chk (lb_ix x6 8) (if (σ 14 x6.toNatClampNeg) = x1 then (f_X8_ownersGraceWithout x6 x2 σ).bind (fun q71 => if q71.1 ≤ x4 then f_X8_warn_41 n x1 x2 x4 x5 (x6 + 1) q71.2 else f_X8_warn_41 n x1 x2 q71.1 x6 (x6 + 1) q71.2) else f_X8_warn_41 n x1 x2 x4 x5 (x6 + 1) σ)) = some qr := h
    refine lv_iload hx hb dX8_warn_41 (lv_at hl 5 rfl) ?_
    refine lv_aload_n hx hb dX8_warn_43 rfl (lv_at hl 0 rfl) ?_
    refine rg_X8_10 X hW dX8_warn_44 ?_
    refine rg_X8_165 X hW lb_V1 dX8_warn_47 ?_
    refine lv_icmp_ge (tgt := 97) hx hb dX8_warn_50 (by decide) (fun c50 => ?_) (fun c50 => ?_)
    · have h := (if_pos c50).symm.trans h
      refine lv_iload hx hb dX8_warn_97 (lv_at hl 4 rfl) ?_
      obtain rfl := Option.some.inj h
      exact lb_iret X hW dX8_warn_99
    · have h := (if_neg c50).symm.trans h
      refine lv_aload_n hx hb dX8_warn_53 rfl (lv_at hl 0 rfl) ?_
      refine rg_X8_10 X hW dX8_warn_54 ?_
      refine rg_X8_104 (k := 14) X hW lb_V1 rfl dX8_warn_57 ?_
      refine lv_iload hx hb dX8_warn_60 (lv_at hl 5 rfl) ?_
      obtain ⟨i62, h⟩ := lb_chk_in h
      refine lb_ild X hW (show lb_ar 14 = 7 + 1 from rfl) i62 dX8_warn_62 ?_
      refine lv_iload_n hx hb dX8_warn_63 rfl (lv_at hl 1 rfl) ?_
      refine lv_icmp_ne (tgt := 91) hx hb dX8_warn_64 (by decide) (fun c64 => ?_) (fun c64 => ?_)
      · have h := (if_neg c64).symm.trans h
        refine lv_iinc (v := (x6 + 1)) (lv' := [(6, .int (x6 + 1)), (0, .ref (lb_ad G 0)), (1, .int x1), (2, .int x2), (4, .int x4), (5, .int x5)]) hx hb dX8_warn_91 hl (k := 5) rfl rfl (by decide) rfl (fun ls hl => ?_)
        refine lv_goto (tgt := 41) hx hb dX8_warn_94 (by decide) ?_
        exact ih x1 x2 x4 x5 (x6 + 1) σ _ _ _ h hW (lv_sub hl [1, 2, 3, 4, 5, 0] rfl)
      · have h := (if_pos c64).symm.trans h
        refine lv_aload_n hx hb dX8_warn_67 rfl (lv_at hl 0 rfl) ?_
        refine lv_iload hx hb dX8_warn_68 (lv_at hl 5 rfl) ?_
        refine lv_iload_n hx hb dX8_warn_70 rfl (lv_at hl 2 rfl) ?_
        obtain ⟨q71, e71, h⟩ := lb_bind h
        refine rc_X8_205 X hW e71 ⟨⟨rfl, rfl⟩, Nat.le_of_ble_eq_true rfl, Nat.le_of_ble_eq_true rfl⟩ hl.1 (Nat.le_of_ble_eq_true rfl) dX8_warn_71 ⟨Nat.zero_le _, Nat.zero_le _⟩ (fun H locs hW => ?_)
        refine lv_istore (lv' := [(7, .int q71.1), (0, .ref (lb_ad G 0)), (1, .int x1), (2, .int x2), (4, .int x4), (5, .int x5), (6, .int x6)]) hx hb dX8_warn_74 hl (by decide) rfl (fun ls hl => ?_)
        refine lv_iload hx hb dX8_warn_76 (lv_at hl 0 rfl) ?_
        refine lv_iload hx hb dX8_warn_78 (lv_at hl 4 rfl) ?_
        refine lv_icmp_le (tgt := 91) hx hb dX8_warn_80 (by decide) (fun c80 => ?_) (fun c80 => ?_)
        · have h := (if_pos c80).symm.trans h
          refine lv_iinc (v := (x6 + 1)) (lv' := [(6, .int (x6 + 1)), (7, .int q71.1), (0, .ref (lb_ad G 0)), (1, .int x1), (2, .int x2), (4, .int x4), (5, .int x5)]) hx hb dX8_warn_91 hl (k := 6) rfl rfl (by decide) rfl (fun ls hl => ?_)
          refine lv_goto (tgt := 41) hx hb dX8_warn_94 (by decide) ?_
          exact ih x1 x2 x4 x5 (x6 + 1) q71.2 _ _ _ h hW (lv_sub hl [2, 3, 4, 5, 6, 0] rfl)
        · have h := (if_neg c80).symm.trans h
          refine lv_iload hx hb dX8_warn_83 (lv_at hl 0 rfl) ?_
          refine lv_istore (lv' := [(4, .int q71.1), (7, .int q71.1), (0, .ref (lb_ad G 0)), (1, .int x1), (2, .int x2), (5, .int x5), (6, .int x6)]) hx hb dX8_warn_85 hl (by decide) rfl (fun ls hl => ?_)
          refine lv_iload hx hb dX8_warn_87 (lv_at hl 6 rfl) ?_
          refine lv_istore (lv' := [(5, .int x6), (4, .int q71.1), (7, .int q71.1), (0, .ref (lb_ad G 0)), (1, .int x1), (2, .int x2), (6, .int x6)]) hx hb dX8_warn_89 hl (by decide) rfl (fun ls hl => ?_)
          refine lv_iinc (v := (x6 + 1)) (lv' := [(6, .int (x6 + 1)), (5, .int x6), (4, .int q71.1), (7, .int q71.1), (0, .ref (lb_ad G 0)), (1, .int x1), (2, .int x2)]) hx hb dX8_warn_91 hl (k := 6) rfl rfl (by decide) rfl (fun ls hl => ?_)
          refine lv_goto (tgt := 41) hx hb dX8_warn_94 (by decide) ?_
          exact ih x1 x2 q71.1 x6 (x6 + 1) q71.2 _ _ _ h hW (lv_sub hl [4, 5, 6, 2, 1, 0] rfl)
def f_X8_warn (x1 : Int32) (x2 : Int32) (σ : lb_Mem) : Option (Int32 × lb_Mem) := lb_let ((f_X8_first (f_X8_personThere σ x1) (f_X8_within x2 (0 : Int32) (30 : Int32)))) (fun v15 : Int32 => if v15 = 0 then (f_X8_graceBehind x1 x2 σ).bind (fun q29 => f_X8_warn_41 lb_N x1 x2 q29.1 (-9 : Int32) (0 : Int32) q29.2) else (f_X8_refuse v15 σ).bind (fun q22 => some (q22.1, q22.2)))
set_option maxRecDepth 20000 in
set_option maxHeartbeats 4000000 in
theorem m_X8_warn (l : Launch) (G : lb_G) (σ : lb_Mem) (x1 : Int32) (x2 : Int32) (qr : (Int32 × lb_Mem)) (h : f_X8_warn x1 x2 σ = some qr) : lb_M l yX8_warn cX8_warn 8 (some .int) rmX8_warn [.ref (lb_ad G 0), .int x1, .int x2] G σ (lb_QI G qr.1 qr.2) := by
  refine lb_start RX8 (by decide +kernel) rfl (Nat.le_of_ble_eq_true rfl) (fun p e s m below meth c X hW ls hl => ?_)
  have hx := X.1
  have hb := X.2.1
  have hl : lv_has ls 8 [(0, .ref (lb_ad G 0)), (1, .int x1), (2, .int x2)] := hl
  have h : (lb_let ((f_X8_first (f_X8_personThere σ x1) (f_X8_within x2 (0 : Int32) (30 : Int32)))) (fun v15 : Int32 => if v15 = 0 then (f_X8_graceBehind x1 x2 σ).bind (fun q29 => f_X8_warn_41 lb_N x1 x2 q29.1 (-9 : Int32) (0 : Int32) q29.2) else (f_X8_refuse v15 σ).bind (fun q22 => some (q22.1, q22.2)))) = some qr := h
  skip
  refine lv_aload_n hx hb dX8_warn_0 rfl (lv_at hl 0 rfl) ?_
  refine lv_iload_n hx hb dX8_warn_1 rfl (lv_at hl 1 rfl) ?_
  refine rc_X8_107 X hW x1 ⟨⟨rfl, rfl⟩, Nat.le_of_ble_eq_true rfl, Nat.le_of_ble_eq_true rfl⟩ hl.1 (Nat.le_of_ble_eq_true rfl) dX8_warn_2 ⟨Nat.zero_le _, Nat.zero_le _⟩ (fun H locs hW => ?_)
  refine lv_iload_n hx hb dX8_warn_5 rfl (lv_at hl 2 rfl) ?_
  refine lv_iconst (v := 0) hx hb dX8_warn_6 rfl ?_
  refine lv_bipush (v := 30) hx hb dX8_warn_7 rfl ?_
  refine rc_X8_44 X hW x2 (0 : Int32) (30 : Int32) ⟨⟨rfl, rfl⟩, Nat.le_of_ble_eq_true rfl, Nat.le_of_ble_eq_true rfl⟩ hl.1 (Nat.le_of_ble_eq_true rfl) dX8_warn_9 ⟨Nat.zero_le _, Nat.zero_le _⟩ (fun H locs hW => ?_)
  refine rc_X8_51 X hW (f_X8_personThere σ x1) (f_X8_within x2 (0 : Int32) (30 : Int32)) ⟨⟨rfl, rfl⟩, Nat.le_of_ble_eq_true rfl, Nat.le_of_ble_eq_true rfl⟩ hl.1 (Nat.le_of_ble_eq_true rfl) dX8_warn_12 ⟨Nat.zero_le _, Nat.zero_le _⟩ (fun H locs hW => ?_)
  refine lv_topi (fun v15 e15 => ?_)
  have h := lb_letI e15 h
  refine lv_istore_n (lv' := [(3, .int v15), (0, .ref (lb_ad G 0)), (1, .int x1), (2, .int x2)]) hx hb dX8_warn_15 rfl hl (by decide) rfl (fun ls hl => ?_)
  refine lv_iload_n hx hb dX8_warn_16 rfl (lv_at hl 0 rfl) ?_
  refine lv_if_eq (tgt := 26) hx hb dX8_warn_17 (by decide) (fun c17 => ?_) (fun c17 => ?_)
  · have h := (if_pos c17).symm.trans h
    refine lv_aload_n hx hb dX8_warn_26 rfl (lv_at hl 1 rfl) ?_
    refine lv_iload_n hx hb dX8_warn_27 rfl (lv_at hl 2 rfl) ?_
    refine lv_iload_n hx hb dX8_warn_28 rfl (lv_at hl 3 rfl) ?_
    obtain ⟨q29, e29, h⟩ := lb_bind h
    refine rc_X8_202 X hW e29 ⟨⟨rfl, rfl⟩, Nat.le_of_ble_eq_true rfl, Nat.le_of_ble_eq_true rfl⟩ hl.1 (Nat.le_of_ble_eq_true rfl) dX8_warn_29 ⟨Nat.zero_le _, Nat.zero_le _⟩ (fun H locs hW => ?_)
    refine lv_istore (lv' := [(4, .int q29.1), (3, .int v15), (0, .ref (lb_ad G 0)), (1, .int x1), (2, .int x2)]) hx hb dX8_warn_32 hl (by decide) rfl (fun ls hl => ?_)
    refine lv_bipush (v := -9) hx hb dX8_warn_34 rfl ?_
    refine lv_istore (lv' := [(5, .int (-9 : Int32)), (4, .int q29.1), (3, .int v15), (0, .ref (lb_ad G 0)), (1, .int x1), (2, .int x2)]) hx hb dX8_warn_36 hl (by decide) rfl (fun ls hl => ?_)
    refine lv_iconst (v := 0) hx hb dX8_warn_38 rfl ?_
    refine lv_istore (lv' := [(6, .int (0 : Int32)), (5, .int (-9 : Int32)), (4, .int q29.1), (3, .int v15), (0, .ref (lb_ad G 0)), (1, .int x1), (2, .int x2)]) hx hb dX8_warn_39 hl (by decide) rfl (fun ls hl => ?_)
    exact w_X8_warn_41 X lb_N x1 x2 q29.1 (-9 : Int32) (0 : Int32) q29.2 _ _ _ h hW (lv_sub hl [4, 5, 6, 2, 1, 0] rfl)
  · have h := (if_neg c17).symm.trans h
    refine lv_aload_n hx hb dX8_warn_20 rfl (lv_at hl 1 rfl) ?_
    refine lv_iload_n hx hb dX8_warn_21 rfl (lv_at hl 0 rfl) ?_
    obtain ⟨q22, e22, h⟩ := lb_bind h
    refine rc_X8_55 X hW e22 ⟨⟨rfl, rfl⟩, Nat.le_of_ble_eq_true rfl, Nat.le_of_ble_eq_true rfl⟩ hl.1 (Nat.le_of_ble_eq_true rfl) dX8_warn_22 ⟨Nat.zero_le _, Nat.zero_le _⟩ (fun H locs hW => ?_)
    obtain rfl := Option.some.inj h
    exact lb_iret X hW dX8_warn_25
abbrev rmX8_heir : Room := { frames := 7, cells := 0, slots := 0, locals := 164 }
def f_X8_heir_35 : Nat → Int32 → Int32 → Int32 → Int32 → Int32 → lb_Mem → Option (Int32 × lb_Mem)
  | 0, _, _, _, _, _, _ => none
  | n + 1, x1, x2, x4, x5, x6, σ => if (σ 1 10) ≤ x6 then some (x4, σ) else (f_X8_allGraceGiven x1 x6 x2 σ).bind (fun q52 => if q52.1 ≤ x5 then f_X8_heir_35 n x1 x2 x4 x5 (x6 + 1) q52.2 else f_X8_heir_35 n x1 x2 x6 q52.1 (x6 + 1) q52.2)
set_option maxRecDepth 20000 in
set_option maxHeartbeats 4000000 in
theorem w_X8_heir_35 {p : Program} {l : Launch} {e : Env} {s : State} {m : MethodId} {args : Array Value} {below : List Frame} {meth : Method} {c : Code} {G : lb_G} {qr : (Int32 × lb_Mem)} (X : lb_C G p s m args meth c cX8_heir 8 RX8 (some .int)) : ∀ (n : Nat) (x1 : Int32) (x2 : Int32) (x4 : Int32) (x5 : Int32) (x6 : Int32) (σ : lb_Mem) (H : Heap) (locs : List Loc) (ls : Array Slot), f_X8_heir_35 n x1 x2 x4 x5 x6 σ = some qr → lb_W G s σ H locs → lv_has ls 8 [(0, .ref (lb_ad G 0)), (1, .int x1), (2, .int x2), (4, .int x4), (5, .int x5), (6, .int x6)] → W p l e rmX8_heir s m args below meth c H locs 0 0 (MQ below (lb_QI G qr.1 qr.2) args s 0 0 (lb_A G)) (F0 m 35 ls []) := by
  have hx := X.1
  have hb := X.2.1
  intro n
  induction n with
  | zero => intro x1 x2 x4 x5 x6 σ H locs ls h hW hl; exact absurd h (fun z => by cases z)
  | succ n ih =>
    intro x1 x2 x4 x5 x6 σ H locs ls h hW hl
    have h : (if (σ 1 10) ≤ x6 then some (x4, σ) else (f_X8_allGraceGiven x1 x6 x2 σ).bind (fun q52 => if q52.1 ≤ x5 then f_X8_heir_35 n x1 x2 x4 x5 (x6 + 1) q52.2 else f_X8_heir_35 n x1 x2 x6 q52.1 (x6 + 1) q52.2)) = some qr := h
    refine lv_iload hx hb dX8_heir_35 (lv_at hl 5 rfl) ?_
    refine lv_aload_n hx hb dX8_heir_37 rfl (lv_at hl 0 rfl) ?_
    refine rg_X8_10 X hW dX8_heir_38 ?_
    refine rg_X8_156 X hW lb_V1 dX8_heir_41 ?_
    refine lv_icmp_ge (tgt := 78) hx hb dX8_heir_44 (by decide) (fun c44 => ?_) (fun c44 => ?_)
    · have h := (if_pos c44).symm.trans h
      refine lv_iload hx hb dX8_heir_78 (lv_at hl 3 rfl) ?_
      obtain rfl := Option.some.inj h
      exact lb_iret X hW dX8_heir_80
    · have h := (if_neg c44).symm.trans h
      refine lv_aload_n hx hb dX8_heir_47 rfl (lv_at hl 0 rfl) ?_
      refine lv_iload_n hx hb dX8_heir_48 rfl (lv_at hl 1 rfl) ?_
      refine lv_iload hx hb dX8_heir_49 (lv_at hl 5 rfl) ?_
      refine lv_iload_n hx hb dX8_heir_51 rfl (lv_at hl 2 rfl) ?_
      obtain ⟨q52, e52, h⟩ := lb_bind h
      refine rc_X8_171 X hW e52 ⟨⟨rfl, rfl⟩, Nat.le_of_ble_eq_true rfl, Nat.le_of_ble_eq_true rfl⟩ hl.1 (Nat.le_of_ble_eq_true rfl) dX8_heir_52 ⟨Nat.zero_le _, Nat.zero_le _⟩ (fun H locs hW => ?_)
      refine lv_istore (lv' := [(7, .int q52.1), (0, .ref (lb_ad G 0)), (1, .int x1), (2, .int x2), (4, .int x4), (5, .int x5), (6, .int x6)]) hx hb dX8_heir_55 hl (by decide) rfl (fun ls hl => ?_)
      refine lv_iload hx hb dX8_heir_57 (lv_at hl 0 rfl) ?_
      refine lv_iload hx hb dX8_heir_59 (lv_at hl 5 rfl) ?_
      refine lv_icmp_le (tgt := 72) hx hb dX8_heir_61 (by decide) (fun c61 => ?_) (fun c61 => ?_)
      · have h := (if_pos c61).symm.trans h
        refine lv_iinc (v := (x6 + 1)) (lv' := [(6, .int (x6 + 1)), (7, .int q52.1), (0, .ref (lb_ad G 0)), (1, .int x1), (2, .int x2), (4, .int x4), (5, .int x5)]) hx hb dX8_heir_72 hl (k := 6) rfl rfl (by decide) rfl (fun ls hl => ?_)
        refine lv_goto (tgt := 35) hx hb dX8_heir_75 (by decide) ?_
        exact ih x1 x2 x4 x5 (x6 + 1) q52.2 _ _ _ h hW (lv_sub hl [2, 3, 4, 5, 6, 0] rfl)
      · have h := (if_neg c61).symm.trans h
        refine lv_iload hx hb dX8_heir_64 (lv_at hl 0 rfl) ?_
        refine lv_istore (lv' := [(5, .int q52.1), (7, .int q52.1), (0, .ref (lb_ad G 0)), (1, .int x1), (2, .int x2), (4, .int x4), (6, .int x6)]) hx hb dX8_heir_66 hl (by decide) rfl (fun ls hl => ?_)
        refine lv_iload hx hb dX8_heir_68 (lv_at hl 6 rfl) ?_
        refine lv_istore (lv' := [(4, .int x6), (5, .int q52.1), (7, .int q52.1), (0, .ref (lb_ad G 0)), (1, .int x1), (2, .int x2), (6, .int x6)]) hx hb dX8_heir_70 hl (by decide) rfl (fun ls hl => ?_)
        refine lv_iinc (v := (x6 + 1)) (lv' := [(6, .int (x6 + 1)), (4, .int x6), (5, .int q52.1), (7, .int q52.1), (0, .ref (lb_ad G 0)), (1, .int x1), (2, .int x2)]) hx hb dX8_heir_72 hl (k := 6) rfl rfl (by decide) rfl (fun ls hl => ?_)
        refine lv_goto (tgt := 35) hx hb dX8_heir_75 (by decide) ?_
        exact ih x1 x2 x6 q52.1 (x6 + 1) q52.2 _ _ _ h hW (lv_sub hl [4, 5, 6, 1, 2, 0] rfl)
def f_X8_heir (x1 : Int32) (x2 : Int32) (σ : lb_Mem) : Option (Int32 × lb_Mem) := lb_let ((f_X8_first (f_X8_potThere σ x1) (f_X8_within x2 (0 : Int32) (30 : Int32)))) (fun v15 : Int32 => if v15 = 0 then f_X8_heir_35 lb_N x1 x2 (0 : Int32) (-1 : Int32) (0 : Int32) σ else (f_X8_refuse v15 σ).bind (fun q22 => some (q22.1, q22.2)))
set_option maxRecDepth 20000 in
set_option maxHeartbeats 4000000 in
theorem m_X8_heir (l : Launch) (G : lb_G) (σ : lb_Mem) (x1 : Int32) (x2 : Int32) (qr : (Int32 × lb_Mem)) (h : f_X8_heir x1 x2 σ = some qr) : lb_M l yX8_heir cX8_heir 8 (some .int) rmX8_heir [.ref (lb_ad G 0), .int x1, .int x2] G σ (lb_QI G qr.1 qr.2) := by
  refine lb_start RX8 (by decide +kernel) rfl (Nat.le_of_ble_eq_true rfl) (fun p e s m below meth c X hW ls hl => ?_)
  have hx := X.1
  have hb := X.2.1
  have hl : lv_has ls 8 [(0, .ref (lb_ad G 0)), (1, .int x1), (2, .int x2)] := hl
  have h : (lb_let ((f_X8_first (f_X8_potThere σ x1) (f_X8_within x2 (0 : Int32) (30 : Int32)))) (fun v15 : Int32 => if v15 = 0 then f_X8_heir_35 lb_N x1 x2 (0 : Int32) (-1 : Int32) (0 : Int32) σ else (f_X8_refuse v15 σ).bind (fun q22 => some (q22.1, q22.2)))) = some qr := h
  skip
  refine lv_aload_n hx hb dX8_heir_0 rfl (lv_at hl 0 rfl) ?_
  refine lv_iload_n hx hb dX8_heir_1 rfl (lv_at hl 1 rfl) ?_
  refine rc_X8_83 X hW x1 ⟨⟨rfl, rfl⟩, Nat.le_of_ble_eq_true rfl, Nat.le_of_ble_eq_true rfl⟩ hl.1 (Nat.le_of_ble_eq_true rfl) dX8_heir_2 ⟨Nat.zero_le _, Nat.zero_le _⟩ (fun H locs hW => ?_)
  refine lv_iload_n hx hb dX8_heir_5 rfl (lv_at hl 2 rfl) ?_
  refine lv_iconst (v := 0) hx hb dX8_heir_6 rfl ?_
  refine lv_bipush (v := 30) hx hb dX8_heir_7 rfl ?_
  refine rc_X8_44 X hW x2 (0 : Int32) (30 : Int32) ⟨⟨rfl, rfl⟩, Nat.le_of_ble_eq_true rfl, Nat.le_of_ble_eq_true rfl⟩ hl.1 (Nat.le_of_ble_eq_true rfl) dX8_heir_9 ⟨Nat.zero_le _, Nat.zero_le _⟩ (fun H locs hW => ?_)
  refine rc_X8_51 X hW (f_X8_potThere σ x1) (f_X8_within x2 (0 : Int32) (30 : Int32)) ⟨⟨rfl, rfl⟩, Nat.le_of_ble_eq_true rfl, Nat.le_of_ble_eq_true rfl⟩ hl.1 (Nat.le_of_ble_eq_true rfl) dX8_heir_12 ⟨Nat.zero_le _, Nat.zero_le _⟩ (fun H locs hW => ?_)
  refine lv_topi (fun v15 e15 => ?_)
  have h := lb_letI e15 h
  refine lv_istore_n (lv' := [(3, .int v15), (0, .ref (lb_ad G 0)), (1, .int x1), (2, .int x2)]) hx hb dX8_heir_15 rfl hl (by decide) rfl (fun ls hl => ?_)
  refine lv_iload_n hx hb dX8_heir_16 rfl (lv_at hl 0 rfl) ?_
  refine lv_if_eq (tgt := 26) hx hb dX8_heir_17 (by decide) (fun c17 => ?_) (fun c17 => ?_)
  · have h := (if_pos c17).symm.trans h
    refine lv_iconst (v := 0) hx hb dX8_heir_26 rfl ?_
    refine lv_istore (lv' := [(4, .int (0 : Int32)), (3, .int v15), (0, .ref (lb_ad G 0)), (1, .int x1), (2, .int x2)]) hx hb dX8_heir_27 hl (by decide) rfl (fun ls hl => ?_)
    refine lv_iconst (v := -1) hx hb dX8_heir_29 rfl ?_
    refine lv_istore (lv' := [(5, .int (-1 : Int32)), (4, .int (0 : Int32)), (3, .int v15), (0, .ref (lb_ad G 0)), (1, .int x1), (2, .int x2)]) hx hb dX8_heir_30 hl (by decide) rfl (fun ls hl => ?_)
    refine lv_iconst (v := 0) hx hb dX8_heir_32 rfl ?_
    refine lv_istore (lv' := [(6, .int (0 : Int32)), (5, .int (-1 : Int32)), (4, .int (0 : Int32)), (3, .int v15), (0, .ref (lb_ad G 0)), (1, .int x1), (2, .int x2)]) hx hb dX8_heir_33 hl (by decide) rfl (fun ls hl => ?_)
    exact w_X8_heir_35 X lb_N x1 x2 (0 : Int32) (-1 : Int32) (0 : Int32) σ _ _ _ h hW (lv_sub hl [4, 5, 6, 2, 1, 0] rfl)
  · have h := (if_neg c17).symm.trans h
    refine lv_aload_n hx hb dX8_heir_20 rfl (lv_at hl 1 rfl) ?_
    refine lv_iload_n hx hb dX8_heir_21 rfl (lv_at hl 0 rfl) ?_
    obtain ⟨q22, e22, h⟩ := lb_bind h
    refine rc_X8_55 X hW e22 ⟨⟨rfl, rfl⟩, Nat.le_of_ble_eq_true rfl, Nat.le_of_ble_eq_true rfl⟩ hl.1 (Nat.le_of_ble_eq_true rfl) dX8_heir_22 ⟨Nat.zero_le _, Nat.zero_le _⟩ (fun H locs hW => ?_)
    obtain rfl := Option.some.inj h
    exact lb_iret X hW dX8_heir_25
