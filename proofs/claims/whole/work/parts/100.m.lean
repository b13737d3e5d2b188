abbrev rmX4_add : Room := { frames := 0, cells := 0, slots := 0, locals := 0 }
def f_X4_add (x1 : Int32) (σ : lb_Mem) : Option lb_Mem := if (96 : Int32) ≤ (σ 49 1) then some σ else lb_chk (lb_ix (σ 49 1) 96) (lb_let (lb_sto σ 50 (σ 49 1).toNatClampNeg x1) (fun s18 : lb_Mem => lb_let (lb_sto s18 49 1 ((s18 49 1) + (1 : Int32))) (fun s26 : lb_Mem => some s26)))
set_option maxRecDepth 20000 in
set_option maxHeartbeats 4000000 in
theorem m_X4_add (l : Launch) (G : lb_G) (σ : lb_Mem) (x1 : Int32) (qr : lb_Mem) (h : f_X4_add x1 σ = some qr) : lb_M l yX4_add cX4_add 2 none rmX4_add [.ref (lb_ad G 49), .int x1] G σ (lb_QV G qr) := by
  refine lb_start RX4 (by decide +kernel) rfl (Nat.le_of_ble_eq_true rfl) (fun p e s m below meth c X hW ls hl => ?_)
  have hx := X.1
  have hb := X.2.1
  have hl : lv_has ls 2 [(0, .ref (lb_ad G 49)), (1, .int x1)] := hl
  have h : (if (96 : Int32) ≤ (σ 49 1) then some σ else lb_chk (lb_ix (σ 49 1) 96) (lb_let (lb_sto σ 50 (σ 49 1).toNatClampNeg x1) (fun s18 : lb_Mem => lb_let (lb_sto s18 49 1 ((s18 49 1) + (1 : Int32))) (fun s26 : lb_Mem => some s26)))) = some qr := h
  skip
  refine lv_aload_n hx hb dX4_add_0 rfl (lv_at hl 0 rfl) ?_
  refine rg_X4_15 X hW dX4_add_1 ?_
  refine lv_bipush (v := 96) hx hb dX4_add_4 rfl ?_
  refine lv_icmp_ge (tgt := 29) hx hb dX4_add_6 (by decide) (fun c6 => ?_) (fun c6 => ?_)
  · have h := (if_pos c6).symm.trans h
    obtain rfl := Option.some.inj h
    exact lb_vret X hW dX4_add_29
  · have h := (if_neg c6).symm.trans h
    refine lv_aload_n hx hb dX4_add_9 rfl (lv_at hl 0 rfl) ?_
    refine rg_X4_9 X hW dX4_add_10 ?_
    refine lv_aload_n hx hb dX4_add_13 rfl (lv_at hl 0 rfl) ?_
    refine rg_X4_15 X hW dX4_add_14 ?_
    refine lv_iload_n hx hb dX4_add_17 rfl (lv_at hl 1 rfl) ?_
    obtain ⟨i18, h⟩ := lb_chk_in h
    refine lb_ist X hW (show lb_ar 50 = 95 + 1 from rfl) i18 dX4_add_18 (fun H locs hW => ?_)
    obtain ⟨s18, e18⟩ : ∃ z, z = lb_sto σ 50 (σ 49 1).toNatClampNeg x1 := ⟨_, rfl⟩
    rw [← e18] at hW
    have h := lb_letI e18 h
    refine lv_aload_n hx hb dX4_add_19 rfl (lv_at hl 0 rfl) ?_
    refine lv_dup hx hb dX4_add_20 rfl ?_
    refine rg_X4_15 X hW dX4_add_21 ?_
    refine lv_iconst (v := 1) hx hb dX4_add_24 rfl ?_
    refine lv_iadd hx hb dX4_add_25 ?_
    refine rp_X4_15 X hW dX4_add_26 (fun H locs hW => ?_)
    obtain ⟨s26, e26⟩ : ∃ z, z = lb_sto s18 49 1 ((s18 49 1) + (1 : Int32)) := ⟨_, rfl⟩
    rw [← e26] at hW
    have h := lb_letI e26 h
    obtain rfl := Option.some.inj h
    exact lb_vret X hW dX4_add_29
abbrev rmX4_letterAt : Room := { frames := 0, cells := 0, slots := 0, locals := 0 }
def f_X4_letterAt (σ : lb_Mem) (x1 : Int32) : Option Int32 := if x1 < 0 then some (0 : Int32) else if (σ 49 1) ≤ x1 then some (0 : Int32) else lb_chk (lb_ix x1 96) (some (σ 50 x1.toNatClampNeg))
set_option maxRecDepth 20000 in
set_option maxHeartbeats 4000000 in
theorem m_X4_letterAt (l : Launch) (G : lb_G) (σ : lb_Mem) (x1 : Int32) (qr : Int32) (h : f_X4_letterAt σ x1 = some qr) : lb_M l yX4_letterAt cX4_letterAt 2 (some .int) rmX4_letterAt [.ref (lb_ad G 49), .int x1] G σ (lb_QI G qr σ) := by
  refine lb_start RX4 (by decide +kernel) rfl (Nat.le_of_ble_eq_true rfl) (fun p e s m below meth c X hW ls hl => ?_)
  have hx := X.1
  have hb := X.2.1
  have hl : lv_has ls 2 [(0, .ref (lb_ad G 49)), (1, .int x1)] := hl
  have h : (if x1 < 0 then some (0 : Int32) else if (σ 49 1) ≤ x1 then some (0 : Int32) else lb_chk (lb_ix x1 96) (some (σ 50 x1.toNatClampNeg))) = some qr := h
  skip
  refine lv_iload_n hx hb dX4_letterAt_0 rfl (lv_at hl 1 rfl) ?_
  refine lv_if_lt (tgt := 21) hx hb dX4_letterAt_1 (by decide) (fun c1 => ?_) (fun c1 => ?_)
  · have h := (if_pos c1).symm.trans h
    refine lv_iconst (v := 0) hx hb dX4_letterAt_21 rfl ?_
    obtain rfl := Option.some.inj h
    exact lb_iret X hW dX4_letterAt_22
  · have h := (if_neg c1).symm.trans h
    refine lv_iload_n hx hb dX4_letterAt_4 rfl (lv_at hl 1 rfl) ?_
    refine lv_aload_n hx hb dX4_letterAt_5 rfl (lv_at hl 0 rfl) ?_
    refine rg_X4_15 X hW dX4_letterAt_6 ?_
    refine lv_icmp_ge (tgt := 21) hx hb dX4_letterAt_9 (by decide) (fun c9 => ?_) (fun c9 => ?_)
    · have h := (if_pos c9).symm.trans h
      refine lv_iconst (v := 0) hx hb dX4_letterAt_21 rfl ?_
      obtain rfl := Option.some.inj h
      exact lb_iret X hW dX4_letterAt_22
    · have h := (if_neg c9).symm.trans h
      refine lv_aload_n hx hb dX4_letterAt_12 rfl (lv_at hl 0 rfl) ?_
      refine rg_X4_9 X hW dX4_letterAt_13 ?_
      refine lv_iload_n hx hb dX4_letterAt_16 rfl (lv_at hl 1 rfl) ?_
      obtain ⟨i17, h⟩ := lb_chk_in h
      refine lb_ild X hW (show lb_ar 50 = 95 + 1 from rfl) i17 dX4_letterAt_17 ?_
      refine lv_goto (tgt := 22) hx hb dX4_letterAt_18 (by decide) ?_
      obtain rfl := Option.some.inj h
      exact lb_iret X hW dX4_letterAt_22
theorem rc_X4_19 {p : Program} {l : Launch} {e : Env} {R : Room} {s : State} {m : MethodId} {args : Array Value} {below : List Frame} {meth : Method} {c : Code} {H : Heap} {locs : List Loc} {cells slots : Nat} {Q : State → Prop} {cc : ByteArray} {pc nL : Nat} {ls : Array Slot} {rest : List Value} {G : lb_G} {σ : lb_Mem} {ret : Option FieldType} (X : lb_C G p s m args meth c cc nL RX4 ret) (hW : lb_W G s σ H locs) {x1 : Int32} {qr : Int32} (h : f_X4_letterAt σ x1 = some qr) (hR : lb_room rmX4_letterAt R 2) (hls : ls.size = nL) (hrest : (rest.map fun v => v.category).sum ≤ 8) (d : decode cc pc = .ok (.invokevirtual 19, 3)) (hcap : cells ≤ R.cells ∧ slots ≤ R.slots) (kk : ∀ (H1 : Heap) (locs1 : List Loc), lb_W G s σ H1 locs1 → W p l e R s m args below meth c H1 locs1 cells slots Q (F0 m (pc + 3) ls (.int qr :: rest))) : W p l e R s m args below meth c H locs cells slots Q (F0 m pc ls (.int x1 :: .ref (lb_ad G 49) :: rest)) :=
  lb_goI hW (lb_runV (As := [.int x1]) X hW (m_X4_letterAt l G σ x1 qr h) (n := 1) ⟨qw_236, qw_51, qw_239, by decide +kernel⟩ hR qw_237 qw_238 lb_is49 rfl hls hrest d hcap) kk
abbrev rmX4_digitAt : Room := { frames := 1, cells := 0, slots := 0, locals := 21 }
def f_X4_digitAt (σ : lb_Mem) (x1 : Int32) : Option Int32 := (f_X4_letterAt σ x1).bind (fun q2 => some (q2 - (48 : Int32)))
set_option maxRecDepth 20000 in
set_option maxHeartbeats 4000000 in
theorem m_X4_digitAt (l : Launch) (G : lb_G) (σ : lb_Mem) (x1 : Int32) (qr : Int32) (h : f_X4_digitAt σ x1 = some qr) : lb_M l yX4_digitAt cX4_digitAt 2 (some .int) rmX4_digitAt [.ref (lb_ad G 49), .int x1] G σ (lb_QI G qr σ) := by
  refine lb_start RX4 (by decide +kernel) rfl (Nat.le_of_ble_eq_true rfl) (fun p e s m below meth c X hW ls hl => ?_)
  have hx := X.1
  have hb := X.2.1
  have hl : lv_has ls 2 [(0, .ref (lb_ad G 49)), (1, .int x1)] := hl
  have h : ((f_X4_letterAt σ x1).bind (fun q2 => some (q2 - (48 : Int32)))) = some qr := h
  skip
  refine lv_aload_n hx hb dX4_digitAt_0 rfl (lv_at hl 0 rfl) ?_
  refine lv_iload_n hx hb dX4_digitAt_1 rfl (lv_at hl 1 rfl) ?_
  obtain ⟨q2, e2, h⟩ := lb_bind h
  refine rc_X4_19 X hW e2 ⟨⟨rfl, rfl⟩, Nat.le_of_ble_eq_true rfl, Nat.le_of_ble_eq_true rfl⟩ hl.1 (Nat.le_of_ble_eq_true rfl) dX4_digitAt_2 ⟨Nat.zero_le _, Nat.zero_le _⟩ (fun H locs hW => ?_)
  refine lv_bipush (v := 48) hx hb dX4_digitAt_5 rfl ?_
  refine lv_isub hx hb dX4_digitAt_7 ?_
  obtain rfl := Option.some.inj h
  exact lb_iret X hW dX4_digitAt_8
abbrev rmJ0_isLatin1_aae02 : Room := { frames := 0, cells := 0, slots := 0, locals := 0 }
def f_J0_isLatin1_aae02 (σ : lb_Mem) : Int32 := if (1 : Int32) = 0 then (0 : Int32) else if (0 : Int32) = 0 then (1 : Int32) else (0 : Int32)
theorem zb_J0_isLatin1_aae02 (σ : lb_Mem) : f_J0_isLatin1_aae02 σ = 0 ∨ f_J0_isLatin1_aae02 σ = 1 := by
  unfold f_J0_isLatin1_aae02
  (repeat' split) <;> first | exact Or.inl rfl | exact Or.inr rfl | exact Or.inl rfl
set_option maxRecDepth 20000 in
set_option maxHeartbeats 4000000 in
theorem m_J0_isLatin1_aae02 (l : Launch) (G : lb_G) (σ : lb_Mem) (qr : Int32) (h : f_J0_isLatin1_aae02 σ = qr) : lb_M l yJ0_isLatin1_aae02 cJ0_isLatin1_aae02 1 (some .boolean) rmJ0_isLatin1_aae02 [.ref (lb_sK G 0)] G σ (lb_QI G qr σ) := by
  refine lb_start RJ0 (by decide +kernel) rfl (Nat.le_of_ble_eq_true rfl) (fun p e s m below meth c X hW ls hl => ?_)
  have hx := X.1
  have hb := X.2.1
  have hl : lv_has ls 1 [(0, .ref (lb_sK G 0))] := hl
  have h : (if (1 : Int32) = 0 then (0 : Int32) else if (0 : Int32) = 0 then (1 : Int32) else (0 : Int32)) = qr := h
  skip
  refine va_gets hx hb X.2.2.2.2.2.1.2.2.2.2 hW.2 X.2.2.2.1 (X.2.2.2.2.1 _ qw_261) (fun _ h => h) dJ0_isLatin1_aae02_0 ?_
  refine lv_if_eq (tgt := 17) hx hb dJ0_isLatin1_aae02_3 (by decide) (fun c3 => ?_) (fun c3 => ?_)
  · have h := (if_pos c3).symm.trans h
    refine lv_iconst (v := 0) hx hb dJ0_isLatin1_aae02_17 rfl ?_
    subst h
    exact lb_zret X hW (Or.inl rfl) dJ0_isLatin1_aae02_18
  · have h := (if_neg c3).symm.trans h
    refine lv_aload_n hx hb dJ0_isLatin1_aae02_6 rfl (lv_at hl 0 rfl) ?_
    refine vk_getf hx hb (lb_strT X).2.1 hW.2 X.2.2.2.1 (X.2.2.2.2.1 _ qw_1135) (fun _ h => h) dJ0_isLatin1_aae02_7 ?_
    refine lv_if_ne (tgt := 17) hx hb dJ0_isLatin1_aae02_10 (by decide) (fun c10 => ?_) (fun c10 => ?_)
    · have h := (if_neg c10).symm.trans h
      refine lv_iconst (v := 0) hx hb dJ0_isLatin1_aae02_17 rfl ?_
      subst h
      exact lb_zret X hW (Or.inl rfl) dJ0_isLatin1_aae02_18
    · have h := (if_pos c10).symm.trans h
      refine lv_iconst (v := 1) hx hb dJ0_isLatin1_aae02_13 rfl ?_
      refine lv_goto (tgt := 18) hx hb dJ0_isLatin1_aae02_14 (by decide) ?_
      subst h
      exact lb_zret X hW (Or.inr rfl) dJ0_isLatin1_aae02_18
abbrev rmJ0_coder_7d493 : Room := { frames := 0, cells := 0, slots := 0, locals := 0 }
def f_J0_coder_7d493 (σ : lb_Mem) : Int32 := if (1 : Int32) = 0 then (1 : Int32) else (0 : Int32)
set_option maxRecDepth 20000 in
set_option maxHeartbeats 4000000 in
theorem m_J0_coder_7d493 (l : Launch) (G : lb_G) (σ : lb_Mem) (qr : Int32) (h : f_J0_coder_7d493 σ = qr) : lb_M l yJ0_coder_7d493 cJ0_coder_7d493 1 (some .byte) rmJ0_coder_7d493 [.ref (lb_sK G 0)] G σ (lb_QI G qr σ) := by
  refine lb_start RJ0 (by decide +kernel) rfl (Nat.le_of_ble_eq_true rfl) (fun p e s m below meth c X hW ls hl => ?_)
  have hx := X.1
  have hb := X.2.1
  have hl : lv_has ls 1 [(0, .ref (lb_sK G 0))] := hl
  have h : (if (1 : Int32) = 0 then (1 : Int32) else (0 : Int32)) = qr := h
  skip
  refine va_gets hx hb X.2.2.2.2.2.1.2.2.2.2 hW.2 X.2.2.2.1 (X.2.2.2.2.1 _ qw_261) (fun _ h => h) dJ0_coder_7d493_0 ?_
  refine lv_if_eq (tgt := 13) hx hb dJ0_coder_7d493_3 (by decide) (fun c3 => ?_) (fun c3 => ?_)
  · have h := (if_pos c3).symm.trans h
    refine lv_iconst (v := 1) hx hb dJ0_coder_7d493_13 rfl ?_
    subst h
    exact lb_bret X hW (by first | exact Or.inl rfl | exact Or.inr rfl) dJ0_coder_7d493_14
  · have h := (if_neg c3).symm.trans h
    refine lv_aload_n hx hb dJ0_coder_7d493_6 rfl (lv_at hl 0 rfl) ?_
    refine vk_getf hx hb (lb_strT X).2.1 hW.2 X.2.2.2.1 (X.2.2.2.2.1 _ qw_1135) (fun _ h => h) dJ0_coder_7d493_7 ?_
    refine lv_goto (tgt := 14) hx hb dJ0_coder_7d493_10 (by decide) ?_
    subst h
    exact lb_bret X hW (by first | exact Or.inl rfl | exact Or.inr rfl) dJ0_coder_7d493_14
theorem rc_J0_335 {p : Program} {l : Launch} {e : Env} {R : Room} {s : State} {m : MethodId} {args : Array Value} {below : List Frame} {meth : Method} {c : Code} {H : Heap} {locs : List Loc} {cells slots : Nat} {Q : State → Prop} {cc : ByteArray} {pc nL : Nat} {ls : Array Slot} {rest : List Value} {G : lb_G} {σ : lb_Mem} {ret : Option FieldType} (X : lb_C G p s m args meth c cc nL RJ0 ret) (hW : lb_W G s σ H locs) (hR : lb_room rmJ0_coder_7d493 R 1) (hls : ls.size = nL) (hrest : (rest.map fun v => v.category).sum ≤ 8) (d : decode cc pc = .ok (.invokevirtual 335, 3)) (hcap : cells ≤ R.cells ∧ slots ≤ R.slots) (kk : ∀ (H1 : Heap) (locs1 : List Loc), lb_W G s σ H1 locs1 → W p l e R s m args below meth c H1 locs1 cells slots Q (F0 m (pc + 3) ls (.int (f_J0_coder_7d493 σ) :: rest))) : W p l e R s m args below meth c H locs cells slots Q (F0 m pc ls (.ref (lb_sK G 0) :: rest)) :=
  lb_goI hW (lb_runVs (As := []) X hW (m_J0_coder_7d493 l G σ _ rfl) (n := 0) ⟨qw_267, qw_53, qw_270, by decide +kernel⟩ hR qw_268 qw_269 rfl rfl hls hrest d hcap) kk
abbrev rmJ0_length_8abf5 : Room := { frames := 1, cells := 0, slots := 0, locals := 20 }
def f_J0_length_8abf5 (σ : lb_Mem) : Int32 := ((6 : Int32) >>> ((f_J0_coder_7d493 σ) &&& 31))
set_option maxRecDepth 20000 in
set_option maxHeartbeats 4000000 in
theorem m_J0_length_8abf5 (l : Launch) (G : lb_G) (σ : lb_Mem) (qr : Int32) (h : f_J0_length_8abf5 σ = qr) : lb_M l yJ0_length_8abf5 cJ0_length_8abf5 1 (some .int) rmJ0_length_8abf5 [.ref (lb_sK G 0)] G σ (lb_QI G qr σ) := by
  refine lb_start RJ0 (by decide +kernel) rfl (Nat.le_of_ble_eq_true rfl) (fun p e s m below meth c X hW ls hl => ?_)
  have hx := X.1
  have hb := X.2.1
  have hl : lv_has ls 1 [(0, .ref (lb_sK G 0))] := hl
  have h : (((6 : Int32) >>> ((f_J0_coder_7d493 σ) &&& 31))) = qr := h
  skip
  refine lv_aload_n hx hb dJ0_length_8abf5_0 rfl (lv_at hl 0 rfl) ?_
  refine vk_getf hx hb (lb_strT X).2.2.1 hW.2 X.2.2.2.1 (X.2.2.2.2.1 _ qw_1136) (fun _ h => h) dJ0_length_8abf5_1 ?_
  refine va_tlen (v := 6) hx hb (lb_strT X).2.2.2 hW.2 rfl dJ0_length_8abf5_4 ?_
  refine lv_aload_n hx hb dJ0_length_8abf5_5 rfl (lv_at hl 0 rfl) ?_
  refine rc_J0_335 X hW ⟨⟨rfl, rfl⟩, Nat.le_of_ble_eq_true rfl, Nat.le_of_ble_eq_true rfl⟩ hl.1 (Nat.le_of_ble_eq_true rfl) dJ0_length_8abf5_6 ⟨Nat.zero_le _, Nat.zero_le _⟩ (fun H locs hW => ?_)
  refine lv_ishr hx hb dJ0_length_8abf5_9 ?_
  subst h
  exact lb_iret X hW dJ0_length_8abf5_10
abbrev rmJ1_canEncode_9a6ad : Room := { frames := 0, cells := 0, slots := 0, locals := 0 }
def f_J1_canEncode_9a6ad (x0 : Int32) : Int32 := if x0 < 0 then (0 : Int32) else if (255 : Int32) < x0 then (0 : Int32) else (1 : Int32)
theorem zb_J1_canEncode_9a6ad (x0 : Int32) : f_J1_canEncode_9a6ad x0 = 0 ∨ f_J1_canEncode_9a6ad x0 = 1 := by
  unfold f_J1_canEncode_9a6ad
  (repeat' split) <;> first | exact Or.inl rfl | exact Or.inr rfl | exact Or.inl rfl
set_option maxRecDepth 20000 in
set_option maxHeartbeats 4000000 in
theorem m_J1_canEncode_9a6ad (l : Launch) (G : lb_G) (σ : lb_Mem) (x0 : Int32) (qr : Int32) (h : f_J1_canEncode_9a6ad x0 = qr) : lb_M l yJ1_canEncode_9a6ad cJ1_canEncode_9a6ad 1 (some .boolean) rmJ1_canEncode_9a6ad [.int x0] G σ (lb_QI G qr σ) := by
  refine lb_start RJ1 (by decide +kernel) rfl (Nat.le_of_ble_eq_true rfl) (fun p e s m below meth c X hW ls hl => ?_)
  have hx := X.1
  have hb := X.2.1
  have hl : lv_has ls 1 [(0, .int x0)] := hl
  have h : (if x0 < 0 then (0 : Int32) else if (255 : Int32) < x0 then (0 : Int32) else (1 : Int32)) = qr := h
  skip
  refine lv_iload_n hx hb dJ1_canEncode_9a6ad_0 rfl (lv_at hl 0 rfl) ?_
  refine lv_if_lt (tgt := 15) hx hb dJ1_canEncode_9a6ad_1 (by decide) (fun c1 => ?_) (fun c1 => ?_)
  · have h := (if_pos c1).symm.trans h
    refine lv_iconst (v := 0) hx hb dJ1_canEncode_9a6ad_15 rfl ?_
    subst h
    exact lb_zret X hW (Or.inl rfl) dJ1_canEncode_9a6ad_16
  · have h := (if_neg c1).symm.trans h
    refine lv_iload_n hx hb dJ1_canEncode_9a6ad_4 rfl (lv_at hl 0 rfl) ?_
    refine lv_sipush (v := 255) hx hb dJ1_canEncode_9a6ad_5 rfl ?_
    refine lv_icmp_gt (tgt := 15) hx hb dJ1_canEncode_9a6ad_8 (by decide) (fun c8 => ?_) (fun c8 => ?_)
    · have h := (if_pos c8).symm.trans h
      refine lv_iconst (v := 0) hx hb dJ1_canEncode_9a6ad_15 rfl ?_
      subst h
      exact lb_zret X hW (Or.inl rfl) dJ1_canEncode_9a6ad_16
    · have h := (if_neg c8).symm.trans h
      refine lv_iconst (v := 1) hx hb dJ1_canEncode_9a6ad_11 rfl ?_
      refine lv_goto (tgt := 16) hx hb dJ1_canEncode_9a6ad_12 (by decide) ?_
      subst h
      exact lb_zret X hW (Or.inr rfl) dJ1_canEncode_9a6ad_16
abbrev rmJ1_indexOfChar_4cfef : Room := { frames := 0, cells := 0, slots := 0, locals := 0 }
def f_J1_indexOfChar_4cfef_7 : Nat → Int32 → Int32 → Int32 → Option Int32
  | 0, _, _, _ => none
  | n + 1, x3, x4, x5 => if x3 ≤ x5 then some (-1 : Int32) else lb_chk (lb_ix x5 6) (if (lb_byt x5.toNatClampNeg) = x4 then some x5 else f_J1_indexOfChar_4cfef_7 n x3 x4 (x5 + 1))
set_option maxRecDepth 20000 in
set_option maxHeartbeats 4000000 in
theorem w_J1_indexOfChar_4cfef_7 {p : Program} {l : Launch} {e : Env} {s : State} {m : MethodId} {args : Array Value} {below : List Frame} {meth : Method} {c : Code} {G : lb_G} {σ : lb_Mem} {qr : Int32} (X : lb_C G p s m args meth c cJ1_indexOfChar_4cfef 6 RJ1 (some .int)) : ∀ (n : Nat) (x3 : Int32) (x4 : Int32) (x5 : Int32) (H : Heap) (locs : List Loc) (ls : Array Slot), f_J1_indexOfChar_4cfef_7 n x3 x4 x5 = some qr → lb_W G s σ H locs → lv_has ls 6 [(0, .ref (lb_sV G 0)), (3, .int x3), (4, .int x4), (5, .int x5)] → W p l e rmJ1_indexOfChar_4cfef s m args below meth c H locs 0 0 (MQ below (lb_QI G qr σ) args s 0 0 (lb_A G)) (F0 m 7 ls []) := by
  have hx := X.1
  have hb := X.2.1
  intro n
  induction n with
  | zero => intro x3 x4 x5 H locs ls h hW hl; exact absurd h (fun z => by cases z)
  | succ n ih =>
    intro x3 x4 x5 H locs ls h hW hl
    have h : (if x3 ≤ x5 then some (-1 : Int32) else lb_chk (lb_ix x5 6) (if (lb_byt x5.toNatClampNeg) = x4 then some x5 else f_J1_indexOfChar_4cfef_7 n x3 x4 (x5 + 1))) = some qr := h
    refine lv_iload hx hb dJ1_indexOfChar_4cfef_7 (lv_at hl 3 rfl) ?_
    refine lv_iload_n hx hb dJ1_indexOfChar_4cfef_9 rfl (lv_at hl 1 rfl) ?_
    refine lv_icmp_ge (tgt := 31) hx hb dJ1_indexOfChar_4cfef_10 (by decide) (fun c10 => ?_) (fun c10 => ?_)
    · have h := (if_pos c10).symm.trans h
      refine lv_iconst (v := -1) hx hb dJ1_indexOfChar_4cfef_31 rfl ?_
      obtain rfl := Option.some.inj h
      exact lb_iret X hW dJ1_indexOfChar_4cfef_32
    · have h := (if_neg c10).symm.trans h
      refine lv_aload_n hx hb dJ1_indexOfChar_4cfef_13 rfl (lv_at hl 0 rfl) ?_
      refine lv_iload hx hb dJ1_indexOfChar_4cfef_14 (lv_at hl 3 rfl) ?_
      obtain ⟨i16, h⟩ := lb_chk_in h
      refine va_tb hx hb (lb_strT X).2.2.2 hW.2 i16 rfl dJ1_indexOfChar_4cfef_16 ?_
      refine lv_iload hx hb dJ1_indexOfChar_4cfef_17 (lv_at hl 2 rfl) ?_
      refine lv_icmp_ne (tgt := 25) hx hb dJ1_indexOfChar_4cfef_19 (by decide) (fun c19 => ?_) (fun c19 => ?_)
      · have h := (if_neg c19).symm.trans h
        refine lv_iinc (v := (x5 + 1)) (lv' := [(5, .int (x5 + 1)), (0, .ref (lb_sV G 0)), (3, .int x3), (4, .int x4)]) hx hb dJ1_indexOfChar_4cfef_25 hl (k := 3) rfl rfl (by decide) rfl (fun ls hl => ?_)
        refine lv_goto (tgt := 7) hx hb dJ1_indexOfChar_4cfef_28 (by decide) ?_
        exact ih x3 x4 (x5 + 1) _ _ _ h hW (lv_sub hl [1, 2, 3, 0] rfl)
      · have h := (if_pos c19).symm.trans h
        refine lv_iload hx hb dJ1_indexOfChar_4cfef_22 (lv_at hl 3 rfl) ?_
        obtain rfl := Option.some.inj h
        exact lb_iret X hW dJ1_indexOfChar_4cfef_24
def f_J1_indexOfChar_4cfef (x1 : Int32) (x2 : Int32) (x3 : Int32) : Option Int32 := lb_let ((x1.toInt8.toInt32)) (fun v2 : Int32 => f_J1_indexOfChar_4cfef_7 lb_N x3 v2 x2)
set_option maxRecDepth 20000 in
set_option maxHeartbeats 4000000 in
theorem m_J1_indexOfChar_4cfef (l : Launch) (G : lb_G) (σ : lb_Mem) (x1 : Int32) (x2 : Int32) (x3 : Int32) (qr : Int32) (h : f_J1_indexOfChar_4cfef x1 x2 x3 = some qr) : lb_M l yJ1_indexOfChar_4cfef cJ1_indexOfChar_4cfef 6 (some .int) rmJ1_indexOfChar_4cfef [.ref (lb_sV G 0), .int x1, .int x2, .int x3] G σ (lb_QI G qr σ) := by
  refine lb_start RJ1 (by decide +kernel) rfl (Nat.le_of_ble_eq_true rfl) (fun p e s m below meth c X hW ls hl => ?_)
  have hx := X.1
  have hb := X.2.1
  have hl : lv_has ls 6 [(0, .ref (lb_sV G 0)), (1, .int x1), (2, .int x2), (3, .int x3)] := hl
  have h : (lb_let ((x1.toInt8.toInt32)) (fun v2 : Int32 => f_J1_indexOfChar_4cfef_7 lb_N x3 v2 x2)) = some qr := h
  skip
  refine lv_iload_n hx hb dJ1_indexOfChar_4cfef_0 rfl (lv_at hl 1 rfl) ?_
  refine lv_i2b (v := x1.toInt8.toInt32) hx hb dJ1_indexOfChar_4cfef_1 rfl ?_
  refine lv_topi (fun v2 e2 => ?_)
  have h := lb_letI e2 h
  refine lv_istore (lv' := [(4, .int v2), (0, .ref (lb_sV G 0)), (1, .int x1), (2, .int x2), (3, .int x3)]) hx hb dJ1_indexOfChar_4cfef_2 hl (by decide) rfl (fun ls hl => ?_)
  refine lv_iload_n hx hb dJ1_indexOfChar_4cfef_4 rfl (lv_at hl 3 rfl) ?_
  refine lv_istore (lv' := [(5, .int x2), (4, .int v2), (0, .ref (lb_sV G 0)), (1, .int x1), (2, .int x2), (3, .int x3)]) hx hb dJ1_indexOfChar_4cfef_5 hl (by decide) rfl (fun ls hl => ?_)
  exact w_J1_indexOfChar_4cfef_7 X lb_N x3 v2 x2 _ _ _ h hW (lv_sub hl [2, 5, 1, 0] rfl)
theorem rc_J1_88 {p : Program} {l : Launch} {e : Env} {R : Room} {s : State} {m : MethodId} {args : Array Value} {below : List Frame} {meth : Method} {c : Code} {H : Heap} {locs : List Loc} {cells slots : Nat} {Q : State → Prop} {cc : ByteArray} {pc nL : Nat} {ls : Array Slot} {rest : List Value} {G : lb_G} {σ : lb_Mem} {ret : Option FieldType} (X : lb_C G p s m args meth c cc nL RJ1 ret) (hW : lb_W G s σ H locs) (x0 : Int32) (hR : lb_room rmJ1_canEncode_9a6ad R 1) (hls : ls.size = nL) (hrest : (rest.map fun v => v.category).sum ≤ 8) (d : decode cc pc = .ok (.invokestatic 88, 3)) (hcap : cells ≤ R.cells ∧ slots ≤ R.slots) (kk : ∀ (H1 : Heap) (locs1 : List Loc), lb_W G s σ H1 locs1 → W p l e R s m args below meth c H1 locs1 cells slots Q (F0 m (pc + 3) ls (.int (f_J1_canEncode_9a6ad x0) :: rest))) : W p l e R s m args below meth c H locs cells slots Q (F0 m pc ls (.int x0 :: rest)) :=
  lb_goI hW (lb_runS (As := [.int x0]) X hW (m_J1_canEncode_9a6ad l G σ x0 _ rfl) (n := 1) ⟨qw_274, qw_54, qw_276, by decide +kernel⟩ hR qw_275 rfl hls hrest d hcap) kk
theorem rc_J1_95 {p : Program} {l : Launch} {e : Env} {R : Room} {s : State} {m : MethodId} {args : Array Value} {below : List Frame} {meth : Method} {c : Code} {H : Heap} {locs : List Loc} {cells slots : Nat} {Q : State → Prop} {cc : ByteArray} {pc nL : Nat} {ls : Array Slot} {rest : List Value} {G : lb_G} {σ : lb_Mem} {ret : Option FieldType} (X : lb_C G p s m args meth c cc nL RJ1 ret) (hW : lb_W G s σ H locs) {x1 : Int32} {x2 : Int32} {x3 : Int32} {qr : Int32} (h : f_J1_indexOfChar_4cfef x1 x2 x3 = some qr) (hR : lb_room rmJ1_indexOfChar_4cfef R 6) (hls : ls.size = nL) (hrest : (rest.map fun v => v.category).sum ≤ 8) (d : decode cc pc = .ok (.invokestatic 95, 3)) (hcap : cells ≤ R.cells ∧ slots ≤ R.slots) (kk : ∀ (H1 : Heap) (locs1 : List Loc), lb_W G s σ H1 locs1 → W p l e R s m args below meth c H1 locs1 cells slots Q (F0 m (pc + 3) ls (.int qr :: rest))) : W p l e R s m args below meth c H locs cells slots Q (F0 m pc ls (.int x3 :: .int x2 :: .int x1 :: .ref (lb_sV G 0) :: rest)) :=
  lb_goI hW (lb_runS (As := [.ref (lb_sV G 0), .int x1, .int x2, .int x3]) X hW (m_J1_indexOfChar_4cfef l G σ x1 x2 x3 qr h) (n := 4) ⟨qw_283, qw_54, qw_285, by decide +kernel⟩ hR qw_284 rfl hls hrest d hcap) kk
abbrev rmJ1_indexOf_4cfef : Room := { frames := 1, cells := 0, slots := 0, locals := 25 }
def f_J1_indexOf_4cfef (x1 : Int32) (x2 : Int32) (x3 : Int32) : Option Int32 := if (f_J1_canEncode_9a6ad x1) = 0 then some (-1 : Int32) else lb_let ((if x2 < (0 : Int32) then (0 : Int32) else x2)) (fun v14 : Int32 => lb_let ((if (6 : Int32) < x3 then (6 : Int32) else x3)) (fun v21 : Int32 => if v14 < v21 then (f_J1_indexOfChar_4cfef x1 v14 v21).bind (fun q33 => some q33) else some (-1 : Int32)))
set_option maxRecDepth 20000 in
set_option maxHeartbeats 4000000 in
theorem m_J1_indexOf_4cfef (l : Launch) (G : lb_G) (σ : lb_Mem) (x1 : Int32) (x2 : Int32) (x3 : Int32) (qr : Int32) (h : f_J1_indexOf_4cfef x1 x2 x3 = some qr) : lb_M l yJ1_indexOf_4cfef cJ1_indexOf_4cfef 4 (some .int) rmJ1_indexOf_4cfef [.ref (lb_sV G 0), .int x1, .int x2, .int x3] G σ (lb_QI G qr σ) := by
  refine lb_start RJ1 (by decide +kernel) rfl (Nat.le_of_ble_eq_true rfl) (fun p e s m below meth c X hW ls hl => ?_)
  have hx := X.1
  have hb := X.2.1
  have hl : lv_has ls 4 [(0, .ref (lb_sV G 0)), (1, .int x1), (2, .int x2), (3, .int x3)] := hl
  have h : (if (f_J1_canEncode_9a6ad x1) = 0 then some (-1 : Int32) else lb_let ((if x2 < (0 : Int32) then (0 : Int32) else x2)) (fun v14 : Int32 => lb_let ((if (6 : Int32) < x3 then (6 : Int32) else x3)) (fun v21 : Int32 => if v14 < v21 then (f_J1_indexOfChar_4cfef x1 v14 v21).bind (fun q33 => some q33) else some (-1 : Int32)))) = some qr := h
  skip
  refine lv_iload_n hx hb dJ1_indexOf_4cfef_0 rfl (lv_at hl 1 rfl) ?_
  refine rc_J1_88 X hW x1 ⟨⟨rfl, rfl⟩, Nat.le_of_ble_eq_true rfl, Nat.le_of_ble_eq_true rfl⟩ hl.1 (Nat.le_of_ble_eq_true rfl) dJ1_indexOf_4cfef_1 ⟨Nat.zero_le _, Nat.zero_le _⟩ (fun H locs hW => ?_)
  refine lv_if_ne (tgt := 9) hx hb dJ1_indexOf_4cfef_4 (by decide) (fun c4 => ?_) (fun c4 => ?_)
  · have h := (if_neg c4).symm.trans h
    refine lv_iload_n hx hb dJ1_indexOf_4cfef_9 rfl (lv_at hl 2 rfl) ?_
    refine lv_iconst (v := 0) hx hb dJ1_indexOf_4cfef_10 rfl ?_
    refine va_mmax hx hb (by rw [X.2.2.1]; exact hl.1.symm) X.2.2.2.1 (X.2.2.2.2.1 _ qw_277) (X.2.2.2.2.1 _ qw_278) (X.2.2.2.2.1 _ qw_55) (X.2.2.2.2.1 _ qw_279) (Nat.le_of_ble_eq_true rfl) (Nat.le_of_ble_eq_true rfl) (Nat.zero_le _) (Nat.zero_le _) dJ1_indexOf_4cfef_11 ?_
    refine lv_topi (fun v14 e14 => ?_)
    have h := lb_letI e14 h
    refine lv_istore_n (lv' := [(2, .int v14), (0, .ref (lb_sV G 0)), (1, .int x1), (3, .int x3)]) hx hb dJ1_indexOf_4cfef_14 rfl hl (by decide) rfl (fun ls hl => ?_)
    refine lv_iload_n hx hb dJ1_indexOf_4cfef_15 rfl (lv_at hl 3 rfl) ?_
    refine lv_aload_n hx hb dJ1_indexOf_4cfef_16 rfl (lv_at hl 1 rfl) ?_
    refine va_tlen (v := 6) hx hb (lb_strT X).2.2.2 hW.2 rfl dJ1_indexOf_4cfef_17 ?_
    refine va_mmin hx hb (by rw [X.2.2.1]; exact hl.1.symm) X.2.2.2.1 (X.2.2.2.2.1 _ qw_280) (X.2.2.2.2.1 _ qw_281) (X.2.2.2.2.1 _ qw_55) (X.2.2.2.2.1 _ qw_282) (Nat.le_of_ble_eq_true rfl) (Nat.le_of_ble_eq_true rfl) (Nat.zero_le _) (Nat.zero_le _) dJ1_indexOf_4cfef_18 ?_
    refine lv_topi (fun v21 e21 => ?_)
    have h := lb_letI e21 h
    refine lv_istore_n (lv' := [(3, .int v21), (2, .int v14), (0, .ref (lb_sV G 0)), (1, .int x1)]) hx hb dJ1_indexOf_4cfef_21 rfl hl (by decide) rfl (fun ls hl => ?_)
    refine lv_iload_n hx hb dJ1_indexOf_4cfef_22 rfl (lv_at hl 1 rfl) ?_
    refine lv_iload_n hx hb dJ1_indexOf_4cfef_23 rfl (lv_at hl 0 rfl) ?_
    refine lv_icmp_lt (tgt := 29) hx hb dJ1_indexOf_4cfef_24 (by decide) (fun c24 => ?_) (fun c24 => ?_)
    · have h := (if_pos c24).symm.trans h
      refine lv_aload_n hx hb dJ1_indexOf_4cfef_29 rfl (lv_at hl 2 rfl) ?_
      refine lv_iload_n hx hb dJ1_indexOf_4cfef_30 rfl (lv_at hl 3 rfl) ?_
      refine lv_iload_n hx hb dJ1_indexOf_4cfef_31 rfl (lv_at hl 1 rfl) ?_
      refine lv_iload_n hx hb dJ1_indexOf_4cfef_32 rfl (lv_at hl 0 rfl) ?_
      obtain ⟨q33, e33, h⟩ := lb_bind h
      refine rc_J1_95 X hW e33 ⟨⟨rfl, rfl⟩, Nat.le_of_ble_eq_true rfl, Nat.le_of_ble_eq_true rfl⟩ hl.1 (Nat.le_of_ble_eq_true rfl) dJ1_indexOf_4cfef_33 ⟨Nat.zero_le _, Nat.zero_le _⟩ (fun H locs hW => ?_)
      obtain rfl := Option.some.inj h
      exact lb_iret X hW dJ1_indexOf_4cfef_36
    · have h := (if_neg c24).symm.trans h
      refine lv_iconst (v := -1) hx hb dJ1_indexOf_4cfef_27 rfl ?_
      obtain rfl := Option.some.inj h
      exact lb_iret X hW dJ1_indexOf_4cfef_28
  · have h := (if_pos c4).symm.trans h
    refine lv_iconst (v := -1) hx hb dJ1_indexOf_4cfef_7 rfl ?_
    obtain rfl := Option.some.inj h
    exact lb_iret X hW dJ1_indexOf_4cfef_8
theorem rc_J0_492 {p : Program} {l : Launch} {e : Env} {R : Room} {s : State} {m : MethodId} {args : Array Value} {below : List Frame} {meth : Method} {c : Code} {H : Heap} {locs : List Loc} {cells slots : Nat} {Q : State → Prop} {cc : ByteArray} {pc nL : Nat} {ls : Array Slot} {rest : List Value} {G : lb_G} {σ : lb_Mem} {ret : Option FieldType} (X : lb_C G p s m args meth c cc nL RJ0 ret) (hW : lb_W G s σ H locs) (hR : lb_room rmJ0_isLatin1_aae02 R 1) (hls : ls.size = nL) (hrest : (rest.map fun v => v.category).sum ≤ 8) (d : decode cc pc = .ok (.invokevirtual 492, 3)) (hcap : cells ≤ R.cells ∧ slots ≤ R.slots) (kk : ∀ (H1 : Heap) (locs1 : List Loc), lb_W G s σ H1 locs1 → W p l e R s m args below meth c H1 locs1 cells slots Q (F0 m (pc + 3) ls (.int (f_J0_isLatin1_aae02 σ) :: rest))) : W p l e R s m args below meth c H locs cells slots Q (F0 m pc ls (.ref (lb_sK G 0) :: rest)) :=
  lb_goI hW (lb_runVs (As := []) X hW (m_J0_isLatin1_aae02 l G σ _ rfl) (n := 0) ⟨qw_257, qw_53, qw_260, by decide +kernel⟩ hR qw_258 qw_259 rfl rfl hls hrest d hcap) kk
theorem rc_J0_505 {p : Program} {l : Launch} {e : Env} {R : Room} {s : State} {m : MethodId} {args : Array Value} {below : List Frame} {meth : Method} {c : Code} {H : Heap} {locs : List Loc} {cells slots : Nat} {Q : State → Prop} {cc : ByteArray} {pc nL : Nat} {ls : Array Slot} {rest : List Value} {G : lb_G} {σ : lb_Mem} {ret : Option FieldType} (X : lb_C G p s m args meth c cc nL RJ0 ret) (hW : lb_W G s σ H locs) (hR : lb_room rmJ0_length_8abf5 R 1) (hls : ls.size = nL) (hrest : (rest.map fun v => v.category).sum ≤ 8) (d : decode cc pc = .ok (.invokevirtual 505, 3)) (hcap : cells ≤ R.cells ∧ slots ≤ R.slots) (kk : ∀ (H1 : Heap) (locs1 : List Loc), lb_W G s σ H1 locs1 → W p l e R s m args below meth c H1 locs1 cells slots Q (F0 m (pc + 3) ls (.int (f_J0_length_8abf5 σ) :: rest))) : W p l e R s m args below meth c H locs cells slots Q (F0 m pc ls (.ref (lb_sK G 0) :: rest)) :=
  lb_goI hW (lb_runVs (As := []) X hW (m_J0_length_8abf5 l G σ _ rfl) (n := 0) ⟨qw_263, qw_53, qw_266, by decide +kernel⟩ hR qw_264 qw_265 rfl rfl hls hrest d hcap) kk
theorem rc_J0_637 {p : Program} {l : Launch} {e : Env} {R : Room} {s : State} {m : MethodId} {args : Array Value} {below : List Frame} {meth : Method} {c : Code} {H : Heap} {locs : List Loc} {cells slots : Nat} {Q : State → Prop} {cc : ByteArray} {pc nL : Nat} {ls : Array Slot} {rest : List Value} {G : lb_G} {σ : lb_Mem} {ret : Option FieldType} (X : lb_C G p s m args meth c cc nL RJ0 ret) (hW : lb_W G s σ H locs) {x1 : Int32} {x2 : Int32} {x3 : Int32} {qr : Int32} (h : f_J1_indexOf_4cfef x1 x2 x3 = some qr) (hR : lb_room rmJ1_indexOf_4cfef R 4) (hls : ls.size = nL) (hrest : (rest.map fun v => v.category).sum ≤ 8) (d : decode cc pc = .ok (.invokestatic 637, 3)) (hcap : cells ≤ R.cells ∧ slots ≤ R.slots) (kk : ∀ (H1 : Heap) (locs1 : List Loc), lb_W G s σ H1 locs1 → W p l e R s m args below meth c H1 locs1 cells slots Q (F0 m (pc + 3) ls (.int qr :: rest))) : W p l e R s m args below meth c H locs cells slots Q (F0 m pc ls (.int x3 :: .int x2 :: .int x1 :: .ref (lb_sV G 0) :: rest)) :=
  lb_goI hW (lb_runS (As := [.ref (lb_sV G 0), .int x1, .int x2, .int x3]) X hW (m_J1_indexOf_4cfef l G σ x1 x2 x3 qr h) (n := 4) ⟨qw_271, qw_54, qw_273, by decide +kernel⟩ hR qw_272 rfl hls hrest d hcap) kk
abbrev rmJ0_indexOf_7cf53 : Room := { frames := 2, cells := 0, slots := 0, locals := 48 }
def f_J0_indexOf_7cf53 (σ : lb_Mem) (x1 : Int32) (x2 : Int32) : Option Int32 := (f_J1_indexOf_4cfef x1 x2 (f_J0_length_8abf5 σ)).bind (fun q17 => some q17)
set_option maxRecDepth 20000 in
set_option maxHeartbeats 4000000 in
theorem m_J0_indexOf_7cf53 (l : Launch) (G : lb_G) (σ : lb_Mem) (x1 : Int32) (x2 : Int32) (qr : Int32) (h : f_J0_indexOf_7cf53 σ x1 x2 = some qr) : lb_M l yJ0_indexOf_7cf53 cJ0_indexOf_7cf53 3 (some .int) rmJ0_indexOf_7cf53 [.ref (lb_sK G 0), .int x1, .int x2] G σ (lb_QI G qr σ) := by
  refine lb_start RJ0 (by decide +kernel) rfl (Nat.le_of_ble_eq_true rfl) (fun p e s m below meth c X hW ls hl => ?_)
  have hx := X.1
  have hb := X.2.1
  have hl : lv_has ls 3 [(0, .ref (lb_sK G 0)), (1, .int x1), (2, .int x2)] := hl
  have h : ((f_J1_indexOf_4cfef x1 x2 (f_J0_length_8abf5 σ)).bind (fun q17 => some q17)) = some qr := h
  skip
  refine lv_aload_n hx hb dJ0_indexOf_7cf53_0 rfl (lv_at hl 0 rfl) ?_
  refine rc_J0_492 X hW ⟨⟨rfl, rfl⟩, Nat.le_of_ble_eq_true rfl, Nat.le_of_ble_eq_true rfl⟩ hl.1 (Nat.le_of_ble_eq_true rfl) dJ0_indexOf_7cf53_1 ⟨Nat.zero_le _, Nat.zero_le _⟩ (fun H locs hW => ?_)
  refine lv_if_eq (tgt := 23) hx hb dJ0_indexOf_7cf53_4 (by decide) (fun z => absurd z (by unfold f_J0_isLatin1_aae02; decide)) (fun _ => ?_)
  refine lv_aload_n hx hb dJ0_indexOf_7cf53_7 rfl (lv_at hl 0 rfl) ?_
  refine vk_getf hx hb (lb_strT X).2.2.1 hW.2 X.2.2.2.1 (X.2.2.2.2.1 _ qw_1136) (fun _ h => h) dJ0_indexOf_7cf53_8 ?_
  refine lv_iload_n hx hb dJ0_indexOf_7cf53_11 rfl (lv_at hl 1 rfl) ?_
  refine lv_iload_n hx hb dJ0_indexOf_7cf53_12 rfl (lv_at hl 2 rfl) ?_
  refine lv_aload_n hx hb dJ0_indexOf_7cf53_13 rfl (lv_at hl 0 rfl) ?_
  refine rc_J0_505 X hW ⟨⟨rfl, rfl⟩, Nat.le_of_ble_eq_true rfl, Nat.le_of_ble_eq_true rfl⟩ hl.1 (Nat.le_of_ble_eq_true rfl) dJ0_indexOf_7cf53_14 ⟨Nat.zero_le _, Nat.zero_le _⟩ (fun H locs hW => ?_)
  obtain ⟨q17, e17, h⟩ := lb_bind h
  refine rc_J0_637 X hW e17 ⟨⟨rfl, rfl⟩, Nat.le_of_ble_eq_true rfl, Nat.le_of_ble_eq_true rfl⟩ hl.1 (Nat.le_of_ble_eq_true rfl) dJ0_indexOf_7cf53_17 ⟨Nat.zero_le _, Nat.zero_le _⟩ (fun H locs hW => ?_)
  refine lv_goto (tgt := 36) hx hb dJ0_indexOf_7cf53_20 (by decide) ?_
  obtain rfl := Option.some.inj h
  exact lb_iret X hW dJ0_indexOf_7cf53_36
theorem rc_J0_633 {p : Program} {l : Launch} {e : Env} {R : Room} {s : State} {m : MethodId} {args : Array Value} {below : List Frame} {meth : Method} {c : Code} {H : Heap} {locs : List Loc} {cells slots : Nat} {Q : State → Prop} {cc : ByteArray} {pc nL : Nat} {ls : Array Slot} {rest : List Value} {G : lb_G} {σ : lb_Mem} {ret : Option FieldType} (X : lb_C G p s m args meth c cc nL RJ0 ret) (hW : lb_W G s σ H locs) {x1 : Int32} {x2 : Int32} {qr : Int32} (h : f_J0_indexOf_7cf53 σ x1 x2 = some qr) (hR : lb_room rmJ0_indexOf_7cf53 R 3) (hls : ls.size = nL) (hrest : (rest.map fun v => v.category).sum ≤ 8) (d : decode cc pc = .ok (.invokevirtual 633, 3)) (hcap : cells ≤ R.cells ∧ slots ≤ R.slots) (kk : ∀ (H1 : Heap) (locs1 : List Loc), lb_W G s σ H1 locs1 → W p l e R s m args below meth c H1 locs1 cells slots Q (F0 m (pc + 3) ls (.int qr :: rest))) : W p l e R s m args below meth c H locs cells slots Q (F0 m pc ls (.int x2 :: .int x1 :: .ref (lb_sK G 0) :: rest)) :=
  lb_goI hW (lb_runVs (As := [.int x1, .int x2]) X hW (m_J0_indexOf_7cf53 l G σ x1 x2 qr h) (n := 2) ⟨qw_253, qw_53, qw_256, by decide +kernel⟩ hR qw_254 qw_255 rfl rfl hls hrest d hcap) kk
abbrev rmJ0_indexOf_0f7a4 : Room := { frames := 3, cells := 0, slots := 0, locals := 70 }
def f_J0_indexOf_0f7a4 (σ : lb_Mem) (x1 : Int32) : Option Int32 := (f_J0_indexOf_7cf53 σ x1 (0 : Int32)).bind (fun q3 => some q3)
set_option maxRecDepth 20000 in
set_option maxHeartbeats 4000000 in
theorem m_J0_indexOf_0f7a4 (l : Launch) (G : lb_G) (σ : lb_Mem) (x1 : Int32) (qr : Int32) (h : f_J0_indexOf_0f7a4 σ x1 = some qr) : lb_M l yJ0_indexOf_0f7a4 cJ0_indexOf_0f7a4 2 (some .int) rmJ0_indexOf_0f7a4 [.ref (lb_sK G 0), .int x1] G σ (lb_QI G qr σ) := by
  refine lb_start RJ0 (by decide +kernel) rfl (Nat.le_of_ble_eq_true rfl) (fun p e s m below meth c X hW ls hl => ?_)
  have hx := X.1
  have hb := X.2.1
  have hl : lv_has ls 2 [(0, .ref (lb_sK G 0)), (1, .int x1)] := hl
  have h : ((f_J0_indexOf_7cf53 σ x1 (0 : Int32)).bind (fun q3 => some q3)) = some qr := h
  skip
  refine lv_aload_n hx hb dJ0_indexOf_0f7a4_0 rfl (lv_at hl 0 rfl) ?_
  refine lv_iload_n hx hb dJ0_indexOf_0f7a4_1 rfl (lv_at hl 1 rfl) ?_
  refine lv_iconst (v := 0) hx hb dJ0_indexOf_0f7a4_2 rfl ?_
  obtain ⟨q3, e3, h⟩ := lb_bind h
  refine rc_J0_633 X hW e3 ⟨⟨rfl, rfl⟩, Nat.le_of_ble_eq_true rfl, Nat.le_of_ble_eq_true rfl⟩ hl.1 (Nat.le_of_ble_eq_true rfl) dJ0_indexOf_0f7a4_3 ⟨Nat.zero_le _, Nat.zero_le _⟩ (fun H locs hW => ?_)
  obtain rfl := Option.some.inj h
  exact lb_iret X hW dJ0_indexOf_0f7a4_6
theorem rc_X4_25 {p : Program} {l : Launch} {e : Env} {R : Room} {s : State} {m : MethodId} {args : Array Value} {below : List Frame} {meth : Method} {c : Code} {H : Heap} {locs : List Loc} {cells slots : Nat} {Q : State → Prop} {cc : ByteArray} {pc nL : Nat} {ls : Array Slot} {rest : List Value} {G : lb_G} {σ : lb_Mem} {ret : Option FieldType} (X : lb_C G p s m args meth c cc nL RX4 ret) (hW : lb_W G s σ H locs) {x1 : Int32} {qr : Int32} (h : f_J0_indexOf_0f7a4 σ x1 = some qr) (hR : lb_room rmJ0_indexOf_0f7a4 R 2) (hls : ls.size = nL) (hrest : (rest.map fun v => v.category).sum ≤ 8) (d : decode cc pc = .ok (.invokevirtual 25, 3)) (hcap : cells ≤ R.cells ∧ slots ≤ R.slots) (kk : ∀ (H1 : Heap) (locs1 : List Loc), lb_W G s σ H1 locs1 → W p l e R s m args below meth c H1 locs1 cells slots Q (F0 m (pc + 3) ls (.int qr :: rest))) : W p l e R s m args below meth c H locs cells slots Q (F0 m pc ls (.int x1 :: .ref (lb_sK G 0) :: rest)) :=
  lb_goI hW (lb_runVs (As := [.int x1]) X hW (m_J0_indexOf_0f7a4 l G σ x1 qr h) (n := 1) ⟨qw_249, qw_53, qw_252, by decide +kernel⟩ hR qw_250 qw_251 rfl rfl hls hrest d hcap) kk
abbrev rmX4_kindAt : Room := { frames := 4, cells := 0, slots := 0, locals := 91 }
def f_X4_kindAt (σ : lb_Mem) (x1 : Int32) : Option Int32 := (f_X4_letterAt σ x1).bind (fun q4 => (f_J0_indexOf_0f7a4 σ ((q4.toUInt32 % 65536).toInt32)).bind (fun q8 => some q8))
set_option maxRecDepth 20000 in
set_option maxHeartbeats 4000000 in
theorem m_X4_kindAt (l : Launch) (G : lb_G) (σ : lb_Mem) (x1 : Int32) (qr : Int32) (h : f_X4_kindAt σ x1 = some qr) : lb_M l yX4_kindAt cX4_kindAt 2 (some .int) rmX4_kindAt [.ref (lb_ad G 49), .int x1] G σ (lb_QI G qr σ) := by
  refine lb_start RX4 (by decide +kernel) rfl (Nat.le_of_ble_eq_true rfl) (fun p e s m below meth c X hW ls hl => ?_)
  have hx := X.1
  have hb := X.2.1
  have hl : lv_has ls 2 [(0, .ref (lb_ad G 49)), (1, .int x1)] := hl
  have h : ((f_X4_letterAt σ x1).bind (fun q4 => (f_J0_indexOf_0f7a4 σ ((q4.toUInt32 % 65536).toInt32)).bind (fun q8 => some q8))) = some qr := h
  skip
  refine va_ldcS hx hb X.2.2.2.1 X.2.2.2.2.2.1.2.2.1 dX4_kindAt_0 ?_
  refine lv_aload_n hx hb dX4_kindAt_2 rfl (lv_at hl 0 rfl) ?_
  refine lv_iload_n hx hb dX4_kindAt_3 rfl (lv_at hl 1 rfl) ?_
  obtain ⟨q4, e4, h⟩ := lb_bind h
  refine rc_X4_19 X hW e4 ⟨⟨rfl, rfl⟩, Nat.le_of_ble_eq_true rfl, Nat.le_of_ble_eq_true rfl⟩ hl.1 (Nat.le_of_ble_eq_true rfl) dX4_kindAt_4 ⟨Nat.zero_le _, Nat.zero_le _⟩ (fun H locs hW => ?_)
  refine lv_i2c (v := (q4.toUInt32 % 65536).toInt32) hx hb dX4_kindAt_7 rfl ?_
  obtain ⟨q8, e8, h⟩ := lb_bind h
  refine rc_X4_25 X hW e8 ⟨⟨rfl, rfl⟩, Nat.le_of_ble_eq_true rfl, Nat.le_of_ble_eq_true rfl⟩ hl.1 (Nat.le_of_ble_eq_true rfl) dX4_kindAt_8 ⟨Nat.zero_le _, Nat.zero_le _⟩ (fun H locs hW => ?_)
  obtain rfl := Option.some.inj h
  exact lb_iret X hW dX4_kindAt_11
abbrev rmX4_lengthAt : Room := { frames := 1, cells := 0, slots := 0, locals := 21 }
def f_X4_lengthAt (σ : lb_Mem) (x1 : Int32) : Option Int32 := (f_X4_letterAt σ x1).bind (fun q2 => if q2 = 102 then some (4 : Int32) else if q2 = 103 then some (4 : Int32) else if q2 = 106 then some (8 : Int32) else if q2 = 107 then some (4 : Int32) else if q2 = 108 then some (4 : Int32) else if q2 = 112 then some (3 : Int32) else if q2 = 121 then some (4 : Int32) else some (0 : Int32))
set_option maxRecDepth 20000 in
set_option maxHeartbeats 4000000 in
theorem m_X4_lengthAt (l : Launch) (G : lb_G) (σ : lb_Mem) (x1 : Int32) (qr : Int32) (h : f_X4_lengthAt σ x1 = some qr) : lb_M l yX4_lengthAt cX4_lengthAt 2 (some .int) rmX4_lengthAt [.ref (lb_ad G 49), .int x1] G σ (lb_QI G qr σ) := by
  refine lb_start RX4 (by decide +kernel) rfl (Nat.le_of_ble_eq_true rfl) (fun p e s m below meth c X hW ls hl => ?_)
  have hx := X.1
  have hb := X.2.1
  have hl : lv_has ls 2 [(0, .ref (lb_ad G 49)), (1, .int x1)] := hl
  have h : ((f_X4_letterAt σ x1).bind (fun q2 => if q2 = 102 then some (4 : Int32) else if q2 = 103 then some (4 : Int32) else if q2 = 106 then some (8 : Int32) else if q2 = 107 then some (4 : Int32) else if q2 = 108 then some (4 : Int32) else if q2 = 112 then some (3 : Int32) else if q2 = 121 then some (4 : Int32) else some (0 : Int32))) = some qr := h
  skip
  refine lv_aload_n hx hb dX4_lengthAt_0 rfl (lv_at hl 0 rfl) ?_
  refine lv_iload_n hx hb dX4_lengthAt_1 rfl (lv_at hl 1 rfl) ?_
  obtain ⟨q2, e2, h⟩ := lb_bind h
  refine rc_X4_19 X hW e2 ⟨⟨rfl, rfl⟩, Nat.le_of_ble_eq_true rfl, Nat.le_of_ble_eq_true rfl⟩ hl.1 (Nat.le_of_ble_eq_true rfl) dX4_lengthAt_2 ⟨Nat.zero_le _, Nat.zero_le _⟩ (fun H locs hW => ?_)
  by_cases c5_102 : q2 = 102
  · have h := (if_pos c5_102).symm.trans h
    refine lv_tableIn (tgt := 105) hx hb dX4_lengthAt_5 (by rw [c5_102]; decide) (by rw [c5_102]; decide) (off := 100) (by rw [c5_102]; rfl) (by decide) ?_
    refine lv_iconst (v := 4) hx hb dX4_lengthAt_105 rfl ?_
    obtain rfl := Option.some.inj h
    exact lb_iret X hW dX4_lengthAt_106
  have h := (if_neg c5_102).symm.trans h
  by_cases c5_103 : q2 = 103
  · have h := (if_pos c5_103).symm.trans h
    refine lv_tableIn (tgt := 105) hx hb dX4_lengthAt_5 (by rw [c5_103]; decide) (by rw [c5_103]; decide) (off := 100) (by rw [c5_103]; rfl) (by decide) ?_
    refine lv_iconst (v := 4) hx hb dX4_lengthAt_105 rfl ?_
    obtain rfl := Option.some.inj h
    exact lb_iret X hW dX4_lengthAt_106
  have h := (if_neg c5_103).symm.trans h
  by_cases c5_106 : q2 = 106
  · have h := (if_pos c5_106).symm.trans h
    refine lv_tableIn (tgt := 102) hx hb dX4_lengthAt_5 (by rw [c5_106]; decide) (by rw [c5_106]; decide) (off := 97) (by rw [c5_106]; rfl) (by decide) ?_
    refine lv_bipush (v := 8) hx hb dX4_lengthAt_102 rfl ?_
    obtain rfl := Option.some.inj h
    exact lb_iret X hW dX4_lengthAt_104
  have h := (if_neg c5_106).symm.trans h
  by_cases c5_107 : q2 = 107
  · have h := (if_pos c5_107).symm.trans h
    refine lv_tableIn (tgt := 105) hx hb dX4_lengthAt_5 (by rw [c5_107]; decide) (by rw [c5_107]; decide) (off := 100) (by rw [c5_107]; rfl) (by decide) ?_
    refine lv_iconst (v := 4) hx hb dX4_lengthAt_105 rfl ?_
    obtain rfl := Option.some.inj h
    exact lb_iret X hW dX4_lengthAt_106
  have h := (if_neg c5_107).symm.trans h
  by_cases c5_108 : q2 = 108
  · have h := (if_pos c5_108).symm.trans h
    refine lv_tableIn (tgt := 105) hx hb dX4_lengthAt_5 (by rw [c5_108]; decide) (by rw [c5_108]; decide) (off := 100) (by rw [c5_108]; rfl) (by decide) ?_
    refine lv_iconst (v := 4) hx hb dX4_lengthAt_105 rfl ?_
    obtain rfl := Option.some.inj h
    exact lb_iret X hW dX4_lengthAt_106
  have h := (if_neg c5_108).symm.trans h
  by_cases c5_112 : q2 = 112
  · have h := (if_pos c5_112).symm.trans h
    refine lv_tableIn (tgt := 100) hx hb dX4_lengthAt_5 (by rw [c5_112]; decide) (by rw [c5_112]; decide) (off := 95) (by rw [c5_112]; rfl) (by decide) ?_
    refine lv_iconst (v := 3) hx hb dX4_lengthAt_100 rfl ?_
    obtain rfl := Option.some.inj h
    exact lb_iret X hW dX4_lengthAt_101
  have h := (if_neg c5_112).symm.trans h
  by_cases c5_121 : q2 = 121
  · have h := (if_pos c5_121).symm.trans h
    refine lv_tableIn (tgt := 105) hx hb dX4_lengthAt_5 (by rw [c5_121]; decide) (by rw [c5_121]; decide) (off := 100) (by rw [c5_121]; rfl) (by decide) ?_
    refine lv_iconst (v := 4) hx hb dX4_lengthAt_105 rfl ?_
    obtain rfl := Option.some.inj h
    exact lb_iret X hW dX4_lengthAt_106
  have h := (if_neg c5_121).symm.trans h
  refine lb_tswD (tgt := 107) (lb_kn_cons c5_102 (lb_kn_cons c5_103 (lb_kn_cons c5_106 (lb_kn_cons c5_107 (lb_kn_cons c5_108 (lb_kn_cons c5_112 (lb_kn_cons c5_121 lb_kn_nil))))))) hx hb dX4_lengthAt_5 (by decide) (by decide) (by decide) (by decide) (by decide) ?_
  refine lv_iconst (v := 0) hx hb dX4_lengthAt_107 rfl ?_
  obtain rfl := Option.some.inj h
  exact lb_iret X hW dX4_lengthAt_108
abbrev rmX7_isDigit : Room := { frames := 0, cells := 0, slots := 0, locals := 0 }
def f_X7_isDigit (x0 : Int32) : Int32 := if x0 < 0 then (0 : Int32) else if (9 : Int32) < x0 then (0 : Int32) else (1 : Int32)
theorem zb_X7_isDigit (x0 : Int32) : f_X7_isDigit x0 = 0 ∨ f_X7_isDigit x0 = 1 := by
  unfold f_X7_isDigit
  (repeat' split) <;> first | exact Or.inl rfl | exact Or.inr rfl | exact Or.inl rfl
set_option maxRecDepth 20000 in
set_option maxHeartbeats 4000000 in
theorem m_X7_isDigit (l : Launch) (G : lb_G) (σ : lb_Mem) (x0 : Int32) (qr : Int32) (h : f_X7_isDigit x0 = qr) : lb_M l yX7_isDigit cX7_isDigit 1 (some .boolean) rmX7_isDigit [.int x0] G σ (lb_QI G qr σ) := by
  refine lb_start RX7 (by decide +kernel) rfl (Nat.le_of_ble_eq_true rfl) (fun p e s m below meth c X hW ls hl => ?_)
  have hx := X.1
  have hb := X.2.1
  have hl : lv_has ls 1 [(0, .int x0)] := hl
  have h : (if x0 < 0 then (0 : Int32) else if (9 : Int32) < x0 then (0 : Int32) else (1 : Int32)) = qr := h
  skip
  refine lv_iload_n hx hb dX7_isDigit_0 rfl (lv_at hl 0 rfl) ?_
  refine lv_if_lt (tgt := 14) hx hb dX7_isDigit_1 (by decide) (fun c1 => ?_) (fun c1 => ?_)
  · have h := (if_pos c1).symm.trans h
    refine lv_iconst (v := 0) hx hb dX7_isDigit_14 rfl ?_
    subst h
    exact lb_zret X hW (Or.inl rfl) dX7_isDigit_15
  · have h := (if_neg c1).symm.trans h
    refine lv_iload_n hx hb dX7_isDigit_4 rfl (lv_at hl 0 rfl) ?_
    refine lv_bipush (v := 9) hx hb dX7_isDigit_5 rfl ?_
    refine lv_icmp_gt (tgt := 14) hx hb dX7_isDigit_7 (by decide) (fun c7 => ?_) (fun c7 => ?_)
    · have h := (if_pos c7).symm.trans h
      refine lv_iconst (v := 0) hx hb dX7_isDigit_14 rfl ?_
      subst h
      exact lb_zret X hW (Or.inl rfl) dX7_isDigit_15
    · have h := (if_neg c7).symm.trans h
      refine lv_iconst (v := 1) hx hb dX7_isDigit_10 rfl ?_
      refine lv_goto (tgt := 15) hx hb dX7_isDigit_11 (by decide) ?_
      subst h
      exact lb_zret X hW (Or.inr rfl) dX7_isDigit_15
theorem rc_X4_37 {p : Program} {l : Launch} {e : Env} {R : Room} {s : State} {m : MethodId} {args : Array Value} {below : List Frame} {meth : Method} {c : Code} {H : Heap} {locs : List Loc} {cells slots : Nat} {Q : State → Prop} {cc : ByteArray} {pc nL : Nat} {ls : Array Slot} {rest : List Value} {G : lb_G} {σ : lb_Mem} {ret : Option FieldType} (X : lb_C G p s m args meth c cc nL RX4 ret) (hW : lb_W G s σ H locs) {x1 : Int32} {qr : Int32} (h : f_X4_kindAt σ x1 = some qr) (hR : lb_room rmX4_kindAt R 2) (hls : ls.size = nL) (hrest : (rest.map fun v => v.category).sum ≤ 8) (d : decode cc pc = .ok (.invokevirtual 37, 3)) (hcap : cells ≤ R.cells ∧ slots ≤ R.slots) (kk : ∀ (H1 : Heap) (locs1 : List Loc), lb_W G s σ H1 locs1 → W p l e R s m args below meth c H1 locs1 cells slots Q (F0 m (pc + 3) ls (.int qr :: rest))) : W p l e R s m args below meth c H locs cells slots Q (F0 m pc ls (.int x1 :: .ref (lb_ad G 49) :: rest)) :=
  lb_goI hW (lb_runV (As := [.int x1]) X hW (m_X4_kindAt l G σ x1 qr h) (n := 1) ⟨qw_244, qw_51, qw_247, by decide +kernel⟩ hR qw_245 qw_246 lb_is49 rfl hls hrest d hcap) kk
theorem rc_X4_40 {p : Program} {l : Launch} {e : Env} {R : Room} {s : State} {m : MethodId} {args : Array Value} {below : List Frame} {meth : Method} {c : Code} {H : Heap} {locs : List Loc} {cells slots : Nat} {Q : State → Prop} {cc : ByteArray} {pc nL : Nat} {ls : Array Slot} {rest : List Value} {G : lb_G} {σ : lb_Mem} {ret : Option FieldType} (X : lb_C G p s m args meth c cc nL RX4 ret) (hW : lb_W G s σ H locs) {x1 : Int32} {qr : Int32} (h : f_X4_digitAt σ x1 = some qr) (hR : lb_room rmX4_digitAt R 2) (hls : ls.size = nL) (hrest : (rest.map fun v => v.category).sum ≤ 8) (d : decode cc pc = .ok (.invokevirtual 40, 3)) (hcap : cells ≤ R.cells ∧ slots ≤ R.slots) (kk : ∀ (H1 : Heap) (locs1 : List Loc), lb_W G s σ H1 locs1 → W p l e R s m args below meth c H1 locs1 cells slots Q (F0 m (pc + 3) ls (.int qr :: rest))) : W p l e R s m args below meth c H locs cells slots Q (F0 m pc ls (.int x1 :: .ref (lb_ad G 49) :: rest)) :=
  lb_goI hW (lb_runV (As := [.int x1]) X hW (m_X4_digitAt l G σ x1 qr h) (n := 1) ⟨qw_335, qw_51, qw_338, by decide +kernel⟩ hR qw_336 qw_337 lb_is49 rfl hls hrest d hcap) kk
theorem rc_X4_43 {p : Program} {l : Launch} {e : Env} {R : Room} {s : State} {m : MethodId} {args : Array Value} {below : List Frame} {meth : Method} {c : Code} {H : Heap} {locs : List Loc} {cells slots : Nat} {Q : State → Prop} {cc : ByteArray} {pc nL : Nat} {ls : Array Slot} {rest : List Value} {G : lb_G} {σ : lb_Mem} {ret : Option FieldType} (X : lb_C G p s m args meth c cc nL RX4 ret) (hW : lb_W G s σ H locs) (x0 : Int32) (hR : lb_room rmX7_isDigit R 1) (hls : ls.size = nL) (hrest : (rest.map fun v => v.category).sum ≤ 8) (d : decode cc pc = .ok (.invokestatic 43, 3)) (hcap : cells ≤ R.cells ∧ slots ≤ R.slots) (kk : ∀ (H1 : Heap) (locs1 : List Loc), lb_W G s σ H1 locs1 → W p l e R s m args below meth c H1 locs1 cells slots Q (F0 m (pc + 3) ls (.int (f_X7_isDigit x0) :: rest))) : W p l e R s m args below meth c H locs cells slots Q (F0 m pc ls (.int x0 :: rest)) :=
  lb_goI hW (lb_runS (As := [.int x0]) X hW (m_X7_isDigit l G σ x0 _ rfl) (n := 1) ⟨qw_339, qw_44, qw_341, by decide +kernel⟩ hR qw_340 rfl hls hrest d hcap) kk
abbrev rmX4_fits : Room := { frames := 5, cells := 0, slots := 0, locals := 112 }
def f_X4_fits_56 (σ : lb_Mem) (x1 : Int32) (x2 : Int32) : Option Int32 := (f_X4_digitAt σ (x1 + x2)).bind (fun q60 => some (f_X7_isDigit q60))
set_option maxRecDepth 20000 in
set_option maxHeartbeats 4000000 in
theorem w_X4_fits_56 {p : Program} {l : Launch} {e : Env} {s : State} {m : MethodId} {args : Array Value} {below : List Frame} {meth : Method} {c : Code} {G : lb_G} {σ : lb_Mem} {qr : Int32} (X : lb_C G p s m args meth c cX4_fits 4 RX4 (some .boolean)) : ∀ (x1 : Int32) (x2 : Int32) (H : Heap) (locs : List Loc) (ls : Array Slot), f_X4_fits_56 σ x1 x2 = some qr → lb_W G s σ H locs → lv_has ls 4 [(0, .ref (lb_ad G 49)), (1, .int x1), (2, .int x2)] → W p l e rmX4_fits s m args below meth c H locs 0 0 (MQ below (lb_QI G qr σ) args s 0 0 (lb_A G)) (F0 m 56 ls []) := by
  have hx := X.1
  have hb := X.2.1
  intro x1 x2 H locs ls h hW hl
  have h : ((f_X4_digitAt σ (x1 + x2)).bind (fun q60 => some (f_X7_isDigit q60))) = some qr := h
  refine lv_aload_n hx hb dX4_fits_56 rfl (lv_at hl 0 rfl) ?_
  refine lv_iload_n hx hb dX4_fits_57 rfl (lv_at hl 1 rfl) ?_
  refine lv_iload_n hx hb dX4_fits_58 rfl (lv_at hl 2 rfl) ?_
  refine lv_iadd hx hb dX4_fits_59 ?_
  obtain ⟨q60, e60, h⟩ := lb_bind h
  refine rc_X4_40 X hW e60 ⟨⟨rfl, rfl⟩, Nat.le_of_ble_eq_true rfl, Nat.le_of_ble_eq_true rfl⟩ hl.1 (Nat.le_of_ble_eq_true rfl) dX4_fits_60 ⟨Nat.zero_le _, Nat.zero_le _⟩ (fun H locs hW => ?_)
  refine rc_X4_43 X hW q60 ⟨⟨rfl, rfl⟩, Nat.le_of_ble_eq_true rfl, Nat.le_of_ble_eq_true rfl⟩ hl.1 (Nat.le_of_ble_eq_true rfl) dX4_fits_63 ⟨Nat.zero_le _, Nat.zero_le _⟩ (fun H locs hW => ?_)
  obtain rfl := Option.some.inj h
  exact lb_zret X hW (zb_X7_isDigit _) dX4_fits_66
def f_X4_fits (σ : lb_Mem) (x1 : Int32) (x2 : Int32) (x3 : Int32) : Option Int32 := if x2 = (x3 - (1 : Int32)) then (f_X4_letterAt σ (x1 + x2)).bind (fun q11 => if q11 = (59 : Int32) then some (1 : Int32) else some (0 : Int32)) else if x2 = (1 : Int32) then (f_X4_letterAt σ x1).bind (fun q32 => if q32 = (106 : Int32) then (f_X4_kindAt σ (x1 + x2)).bind (fun q44 => if q44 < 0 then some (0 : Int32) else some (1 : Int32)) else f_X4_fits_56 σ x1 x2) else f_X4_fits_56 σ x1 x2
set_option maxRecDepth 20000 in
set_option maxHeartbeats 4000000 in
theorem m_X4_fits (l : Launch) (G : lb_G) (σ : lb_Mem) (x1 : Int32) (x2 : Int32) (x3 : Int32) (qr : Int32) (h : f_X4_fits σ x1 x2 x3 = some qr) : lb_M l yX4_fits cX4_fits 4 (some .boolean) rmX4_fits [.ref (lb_ad G 49), .int x1, .int x2, .int x3] G σ (lb_QI G qr σ) := by
  refine lb_start RX4 (by decide +kernel) rfl (Nat.le_of_ble_eq_true rfl) (fun p e s m below meth c X hW ls hl => ?_)
  have hx := X.1
  have hb := X.2.1
  have hl : lv_has ls 4 [(0, .ref (lb_ad G 49)), (1, .int x1), (2, .int x2), (3, .int x3)] := hl
  have h : (if x2 = (x3 - (1 : Int32)) then (f_X4_letterAt σ (x1 + x2)).bind (fun q11 => if q11 = (59 : Int32) then some (1 : Int32) else some (0 : Int32)) else if x2 = (1 : Int32) then (f_X4_letterAt σ x1).bind (fun q32 => if q32 = (106 : Int32) then (f_X4_kindAt σ (x1 + x2)).bind (fun q44 => if q44 < 0 then some (0 : Int32) else some (1 : Int32)) else f_X4_fits_56 σ x1 x2) else f_X4_fits_56 σ x1 x2) = some qr := h
  skip
  refine lv_iload_n hx hb dX4_fits_0 rfl (lv_at hl 2 rfl) ?_
  refine lv_iload_n hx hb dX4_fits_1 rfl (lv_at hl 3 rfl) ?_
  refine lv_iconst (v := 1) hx hb dX4_fits_2 rfl ?_
  refine lv_isub hx hb dX4_fits_3 ?_
  refine lv_icmp_ne (tgt := 25) hx hb dX4_fits_4 (by decide) (fun c4 => ?_) (fun c4 => ?_)
  · have h := (if_neg c4).symm.trans h
    refine lv_iload_n hx hb dX4_fits_25 rfl (lv_at hl 2 rfl) ?_
    refine lv_iconst (v := 1) hx hb dX4_fits_26 rfl ?_
    refine lv_icmp_ne (tgt := 56) hx hb dX4_fits_27 (by decide) (fun c27 => ?_) (fun c27 => ?_)
    · have h := (if_neg c27).symm.trans h
      exact w_X4_fits_56 X x1 x2 _ _ _ h hW (lv_sub hl [0, 1, 2] rfl)
    · have h := (if_pos c27).symm.trans h
      refine lv_aload_n hx hb dX4_fits_30 rfl (lv_at hl 0 rfl) ?_
      refine lv_iload_n hx hb dX4_fits_31 rfl (lv_at hl 1 rfl) ?_
      obtain ⟨q32, e32, h⟩ := lb_bind h
      refine rc_X4_19 X hW e32 ⟨⟨rfl, rfl⟩, Nat.le_of_ble_eq_true rfl, Nat.le_of_ble_eq_true rfl⟩ hl.1 (Nat.le_of_ble_eq_true rfl) dX4_fits_32 ⟨Nat.zero_le _, Nat.zero_le _⟩ (fun H locs hW => ?_)
      refine lv_bipush (v := 106) hx hb dX4_fits_35 rfl ?_
      refine lv_icmp_ne (tgt := 56) hx hb dX4_fits_37 (by decide) (fun c37 => ?_) (fun c37 => ?_)
      · have h := (if_neg c37).symm.trans h
        exact w_X4_fits_56 X x1 x2 _ _ _ h hW (lv_sub hl [0, 1, 2] rfl)
      · have h := (if_pos c37).symm.trans h
        refine lv_aload_n hx hb dX4_fits_40 rfl (lv_at hl 0 rfl) ?_
        refine lv_iload_n hx hb dX4_fits_41 rfl (lv_at hl 1 rfl) ?_
        refine lv_iload_n hx hb dX4_fits_42 rfl (lv_at hl 2 rfl) ?_
        refine lv_iadd hx hb dX4_fits_43 ?_
        obtain ⟨q44, e44, h⟩ := lb_bind h
        refine rc_X4_37 X hW e44 ⟨⟨rfl, rfl⟩, Nat.le_of_ble_eq_true rfl, Nat.le_of_ble_eq_true rfl⟩ hl.1 (Nat.le_of_ble_eq_true rfl) dX4_fits_44 ⟨Nat.zero_le _, Nat.zero_le _⟩ (fun H locs hW => ?_)
        refine lv_if_lt (tgt := 54) hx hb dX4_fits_47 (by decide) (fun c47 => ?_) (fun c47 => ?_)
        · have h := (if_pos c47).symm.trans h
          refine lv_iconst (v := 0) hx hb dX4_fits_54 rfl ?_
          obtain rfl := Option.some.inj h
          exact lb_zret X hW (Or.inl rfl) dX4_fits_55
        · have h := (if_neg c47).symm.trans h
          refine lv_iconst (v := 1) hx hb dX4_fits_50 rfl ?_
          refine lv_goto (tgt := 55) hx hb dX4_fits_51 (by decide) ?_
          obtain rfl := Option.some.inj h
          exact lb_zret X hW (Or.inr rfl) dX4_fits_55
  · have h := (if_pos c4).symm.trans h
    refine lv_aload_n hx hb dX4_fits_7 rfl (lv_at hl 0 rfl) ?_
    refine lv_iload_n hx hb dX4_fits_8 rfl (lv_at hl 1 rfl) ?_
    refine lv_iload_n hx hb dX4_fits_9 rfl (lv_at hl 2 rfl) ?_
    refine lv_iadd hx hb dX4_fits_10 ?_
    obtain ⟨q11, e11, h⟩ := lb_bind h
    refine rc_X4_19 X hW e11 ⟨⟨rfl, rfl⟩, Nat.le_of_ble_eq_true rfl, Nat.le_of_ble_eq_true rfl⟩ hl.1 (Nat.le_of_ble_eq_true rfl) dX4_fits_11 ⟨Nat.zero_le _, Nat.zero_le _⟩ (fun H locs hW => ?_)
    refine lv_bipush (v := 59) hx hb dX4_fits_14 rfl ?_
    refine lv_icmp_ne (tgt := 23) hx hb dX4_fits_16 (by decide) (fun c16 => ?_) (fun c16 => ?_)
    · have h := (if_neg c16).symm.trans h
      refine lv_iconst (v := 0) hx hb dX4_fits_23 rfl ?_
      obtain rfl := Option.some.inj h
      exact lb_zret X hW (Or.inl rfl) dX4_fits_24
    · have h := (if_pos c16).symm.trans h
      refine lv_iconst (v := 1) hx hb dX4_fits_19 rfl ?_
      refine lv_goto (tgt := 24) hx hb dX4_fits_20 (by decide) ?_
      obtain rfl := Option.some.inj h
      exact lb_zret X hW (Or.inr rfl) dX4_fits_24
theorem rc_X4_30 {p : Program} {l : Launch} {e : Env} {R : Room} {s : State} {m : MethodId} {args : Array Value} {below : List Frame} {meth : Method} {c : Code} {H : Heap} {locs : List Loc} {cells slots : Nat} {Q : State → Prop} {cc : ByteArray} {pc nL : Nat} {ls : Array Slot} {rest : List Value} {G : lb_G} {σ : lb_Mem} {ret : Option FieldType} (X : lb_C G p s m args meth c cc nL RX4 ret) (hW : lb_W G s σ H locs) {x1 : Int32} {qr : Int32} (h : f_X4_lengthAt σ x1 = some qr) (hR : lb_room rmX4_lengthAt R 2) (hls : ls.size = nL) (hrest : (rest.map fun v => v.category).sum ≤ 8) (d : decode cc pc = .ok (.invokevirtual 30, 3)) (hcap : cells ≤ R.cells ∧ slots ≤ R.slots) (kk : ∀ (H1 : Heap) (locs1 : List Loc), lb_W G s σ H1 locs1 → W p l e R s m args below meth c H1 locs1 cells slots Q (F0 m (pc + 3) ls (.int qr :: rest))) : W p l e R s m args below meth c H locs cells slots Q (F0 m pc ls (.int x1 :: .ref (lb_ad G 49) :: rest)) :=
  lb_goI hW (lb_runV (As := [.int x1]) X hW (m_X4_lengthAt l G σ x1 qr h) (n := 1) ⟨qw_232, qw_51, qw_235, by decide +kernel⟩ hR qw_233 qw_234 lb_is49 rfl hls hrest d hcap) kk
theorem rc_X4_33 {p : Program} {l : Launch} {e : Env} {R : Room} {s : State} {m : MethodId} {args : Array Value} {below : List Frame} {meth : Method} {c : Code} {H : Heap} {locs : List Loc} {cells slots : Nat} {Q : State → Prop} {cc : ByteArray} {pc nL : Nat} {ls : Array Slot} {rest : List Value} {G : lb_G} {σ : lb_Mem} {ret : Option FieldType} (X : lb_C G p s m args meth c cc nL RX4 ret) (hW : lb_W G s σ H locs) {x1 : Int32} {x2 : Int32} {x3 : Int32} {qr : Int32} (h : f_X4_fits σ x1 x2 x3 = some qr) (hR : lb_room rmX4_fits R 4) (hls : ls.size = nL) (hrest : (rest.map fun v => v.category).sum ≤ 8) (d : decode cc pc = .ok (.invokevirtual 33, 3)) (hcap : cells ≤ R.cells ∧ slots ≤ R.slots) (kk : ∀ (H1 : Heap) (locs1 : List Loc), lb_W G s σ H1 locs1 → W p l e R s m args below meth c H1 locs1 cells slots Q (F0 m (pc + 3) ls (.int qr :: rest))) : W p l e R s m args below meth c H locs cells slots Q (F0 m pc ls (.int x3 :: .int x2 :: .int x1 :: .ref (lb_ad G 49) :: rest)) :=
  lb_goI hW (lb_runV (As := [.int x1, .int x2, .int x3]) X hW (m_X4_fits l G σ x1 x2 x3 qr h) (n := 3) ⟨qw_240, qw_51, qw_243, by decide +kernel⟩ hR qw_241 qw_242 lb_is49 rfl hls hrest d hcap) kk
abbrev rmX4_wrongPlace : Room := { frames := 6, cells := 0, slots := 0, locals := 135 }
def f_X4_wrongPlace_16 (σ : lb_Mem) (kc2 : Int32 → Option Int32) : Nat → Int32 → Int32 → Int32 → Option Int32
  | 0, _, _, _ => none
  | n + 1, x1, x2, x3 => if x2 ≤ x3 then lb_let ((x1 + x2)) (fun v44 : Int32 => if v44 < (σ 49 1) then kc2 v44 else some (-1 : Int32)) else (f_X4_fits σ x1 x3 x2).bind (fun q25 => if q25 = 0 then some (x1 + x3) else f_X4_wrongPlace_16 σ kc2 n x1 x2 (x3 + 1))
set_option maxRecDepth 20000 in
set_option maxHeartbeats 4000000 in
theorem w_X4_wrongPlace_16 {p : Program} {l : Launch} {e : Env} {s : State} {m : MethodId} {args : Array Value} {below : List Frame} {meth : Method} {c : Code} {G : lb_G} {σ : lb_Mem} {qr : Int32} (X : lb_C G p s m args meth c cX4_wrongPlace 4 RX4 (some .int)) {kc2 : Int32 → Option Int32} (hc2 : ∀ (x1 : Int32) (H : Heap) (locs : List Loc) (ls : Array Slot), kc2 x1 = some qr → lb_W G s σ H locs → lv_has ls 4 [(0, .ref (lb_ad G 49)), (1, .int x1)] → W p l e rmX4_wrongPlace s m args below meth c H locs 0 0 (MQ below (lb_QI G qr σ) args s 0 0 (lb_A G)) (F0 m 2 ls [])) : ∀ (n : Nat) (x1 : Int32) (x2 : Int32) (x3 : Int32) (H : Heap) (locs : List Loc) (ls : Array Slot), f_X4_wrongPlace_16 σ kc2 n x1 x2 x3 = some qr → lb_W G s σ H locs → lv_has ls 4 [(0, .ref (lb_ad G 49)), (1, .int x1), (2, .int x2), (3, .int x3)] → W p l e rmX4_wrongPlace s m args below meth c H locs 0 0 (MQ below (lb_QI G qr σ) args s 0 0 (lb_A G)) (F0 m 16 ls []) := by
  have hx := X.1
  have hb := X.2.1
  intro n
  induction n with
  | zero => intro x1 x2 x3 H locs ls h hW hl; exact absurd h (fun z => by cases z)
  | succ n ih =>
    intro x1 x2 x3 H locs ls h hW hl
    have h : (if x2 ≤ x3 then lb_let ((x1 + x2)) (fun v44 : Int32 => if v44 < (σ 49 1) then kc2 v44 else some (-1 : Int32)) else (f_X4_fits σ x1 x3 x2).bind (fun q25 => if q25 = 0 then some (x1 + x3) else f_X4_wrongPlace_16 σ kc2 n x1 x2 (x3 + 1))) = some qr := h
    refine lv_iload_n hx hb dX4_wrongPlace_16 rfl (lv_at hl 3 rfl) ?_
    refine lv_iload_n hx hb dX4_wrongPlace_17 rfl (lv_at hl 2 rfl) ?_
    refine lv_icmp_ge (tgt := 41) hx hb dX4_wrongPlace_18 (by decide) (fun c18 => ?_) (fun c18 => ?_)
    · have h := (if_pos c18).symm.trans h
      refine lv_iload_n hx hb dX4_wrongPlace_41 rfl (lv_at hl 1 rfl) ?_
      refine lv_iload_n hx hb dX4_wrongPlace_42 rfl (lv_at hl 2 rfl) ?_
      refine lv_iadd hx hb dX4_wrongPlace_43 ?_
      refine lv_topi (fun v44 e44 => ?_)
      have h := lb_letI e44 h
      refine lv_istore_n (lv' := [(1, .int v44), (0, .ref (lb_ad G 49)), (2, .int x2), (3, .int x3)]) hx hb dX4_wrongPlace_44 rfl hl (by decide) rfl (fun ls hl => ?_)
      refine lv_iload_n hx hb dX4_wrongPlace_45 rfl (lv_at hl 0 rfl) ?_
      refine lv_aload_n hx hb dX4_wrongPlace_46 rfl (lv_at hl 1 rfl) ?_
      refine rg_X4_15 X hW dX4_wrongPlace_47 ?_
      refine lv_icmp_lt (tgt := 2) hx hb dX4_wrongPlace_50 (by decide) (fun c50 => ?_) (fun c50 => ?_)
      · have h := (if_pos c50).symm.trans h
        exact hc2 v44 _ _ _ h hW (lv_sub hl [1, 0] rfl)
      · have h := (if_neg c50).symm.trans h
        refine lv_iconst (v := -1) hx hb dX4_wrongPlace_53 rfl ?_
        obtain rfl := Option.some.inj h
        exact lb_iret X hW dX4_wrongPlace_54
    · have h := (if_neg c18).symm.trans h
      refine lv_aload_n hx hb dX4_wrongPlace_21 rfl (lv_at hl 0 rfl) ?_
      refine lv_iload_n hx hb dX4_wrongPlace_22 rfl (lv_at hl 1 rfl) ?_
      refine lv_iload_n hx hb dX4_wrongPlace_23 rfl (lv_at hl 3 rfl) ?_
      refine lv_iload_n hx hb dX4_wrongPlace_24 rfl (lv_at hl 2 rfl) ?_
      obtain ⟨q25, e25, h⟩ := lb_bind h
      refine rc_X4_33 X hW e25 ⟨⟨rfl, rfl⟩, Nat.le_of_ble_eq_true rfl, Nat.le_of_ble_eq_true rfl⟩ hl.1 (Nat.le_of_ble_eq_true rfl) dX4_wrongPlace_25 ⟨Nat.zero_le _, Nat.zero_le _⟩ (fun H locs hW => ?_)
      refine lv_if_ne (tgt := 35) hx hb dX4_wrongPlace_28 (by decide) (fun c28 => ?_) (fun c28 => ?_)
      · have h := (if_neg c28).symm.trans h
        refine lv_iinc (v := (x3 + 1)) (lv' := [(3, .int (x3 + 1)), (0, .ref (lb_ad G 49)), (1, .int x1), (2, .int x2)]) hx hb dX4_wrongPlace_35 hl (k := 3) rfl rfl (by decide) rfl (fun ls hl => ?_)
        refine lv_goto (tgt := 16) hx hb dX4_wrongPlace_38 (by decide) ?_
        exact ih x1 x2 (x3 + 1) _ _ _ h hW (lv_sub hl [1, 2, 3, 0] rfl)
      · have h := (if_pos c28).symm.trans h
        refine lv_iload_n hx hb dX4_wrongPlace_31 rfl (lv_at hl 1 rfl) ?_
        refine lv_iload_n hx hb dX4_wrongPlace_32 rfl (lv_at hl 3 rfl) ?_
        refine lv_iadd hx hb dX4_wrongPlace_33 ?_
        obtain rfl := Option.some.inj h
        exact lb_iret X hW dX4_wrongPlace_34
def f_X4_wrongPlace_2 (σ : lb_Mem) : Nat → Int32 → Option Int32
  | 0, _ => none
  | n + 1, x1 => (f_X4_lengthAt σ x1).bind (fun q4 => if q4 = 0 then some x1 else f_X4_wrongPlace_16 σ (fun (x1 : Int32) => f_X4_wrongPlace_2 σ n x1) lb_N x1 q4 (1 : Int32))
set_option maxRecDepth 20000 in
set_option maxHeartbeats 4000000 in
theorem w_X4_wrongPlace_2 {p : Program} {l : Launch} {e : Env} {s : State} {m : MethodId} {args : Array Value} {below : List Frame} {meth : Method} {c : Code} {G : lb_G} {σ : lb_Mem} {qr : Int32} (X : lb_C G p s m args meth c cX4_wrongPlace 4 RX4 (some .int)) : ∀ (n : Nat) (x1 : Int32) (H : Heap) (locs : List Loc) (ls : Array Slot), f_X4_wrongPlace_2 σ n x1 = some qr → lb_W G s σ H locs → lv_has ls 4 [(0, .ref (lb_ad G 49)), (1, .int x1)] → W p l e rmX4_wrongPlace s m args below meth c H locs 0 0 (MQ below (lb_QI G qr σ) args s 0 0 (lb_A G)) (F0 m 2 ls []) := by
  have hx := X.1
  have hb := X.2.1
  intro n
  induction n with
  | zero => intro x1 H locs ls h hW hl; exact absurd h (fun z => by cases z)
  | succ n ih =>
    intro x1 H locs ls h hW hl
    have h : ((f_X4_lengthAt σ x1).bind (fun q4 => if q4 = 0 then some x1 else f_X4_wrongPlace_16 σ (fun (x1 : Int32) => f_X4_wrongPlace_2 σ n x1) lb_N x1 q4 (1 : Int32))) = some qr := h
    refine lv_aload_n hx hb dX4_wrongPlace_2 rfl (lv_at hl 0 rfl) ?_
    refine lv_iload_n hx hb dX4_wrongPlace_3 rfl (lv_at hl 1 rfl) ?_
    obtain ⟨q4, e4, h⟩ := lb_bind h
    refine rc_X4_30 X hW e4 ⟨⟨rfl, rfl⟩, Nat.le_of_ble_eq_true rfl, Nat.le_of_ble_eq_true rfl⟩ hl.1 (Nat.le_of_ble_eq_true rfl) dX4_wrongPlace_4 ⟨Nat.zero_le _, Nat.zero_le _⟩ (fun H locs hW => ?_)
    refine lv_istore_n (lv' := [(2, .int q4), (0, .ref (lb_ad G 49)), (1, .int x1)]) hx hb dX4_wrongPlace_7 rfl hl (by decide) rfl (fun ls hl => ?_)
    refine lv_iload_n hx hb dX4_wrongPlace_8 rfl (lv_at hl 0 rfl) ?_
    refine lv_if_ne (tgt := 14) hx hb dX4_wrongPlace_9 (by decide) (fun c9 => ?_) (fun c9 => ?_)
    · have h := (if_neg c9).symm.trans h
      refine lv_iconst (v := 1) hx hb dX4_wrongPlace_14 rfl ?_
      refine lv_istore_n (lv' := [(3, .int (1 : Int32)), (2, .int q4), (0, .ref (lb_ad G 49)), (1, .int x1)]) hx hb dX4_wrongPlace_15 rfl hl (by decide) rfl (fun ls hl => ?_)
      exact w_X4_wrongPlace_16 X ih lb_N x1 q4 (1 : Int32) _ _ _ h hW (lv_sub hl [2, 3, 1, 0] rfl)
    · have h := (if_pos c9).symm.trans h
      refine lv_iload_n hx hb dX4_wrongPlace_12 rfl (lv_at hl 2 rfl) ?_
      obtain rfl := Option.some.inj h
      exact lb_iret X hW dX4_wrongPlace_13
def f_X4_wrongPlace (σ : lb_Mem) : Option Int32 := f_X4_wrongPlace_2 σ lb_N (0 : Int32)
set_option maxRecDepth 20000 in
set_option maxHeartbeats 4000000 in
theorem m_X4_wrongPlace (l : Launch) (G : lb_G) (σ : lb_Mem) (qr : Int32) (h : f_X4_wrongPlace σ = some qr) : lb_M l yX4_wrongPlace cX4_wrongPlace 4 (some .int) rmX4_wrongPlace [.ref (lb_ad G 49)] G σ (lb_QI G qr σ) := by
  refine lb_start RX4 (by decide +kernel) rfl (Nat.le_of_ble_eq_true rfl) (fun p e s m below meth c X hW ls hl => ?_)
  have hx := X.1
  have hb := X.2.1
  have hl : lv_has ls 4 [(0, .ref (lb_ad G 49))] := hl
  have h : (f_X4_wrongPlace_2 σ lb_N (0 : Int32)) = some qr := h
  skip
  refine lv_iconst (v := 0) hx hb dX4_wrongPlace_0 rfl ?_
  refine lv_istore_n (lv' := [(1, .int (0 : Int32)), (0, .ref (lb_ad G 49))]) hx hb dX4_wrongPlace_1 rfl hl (by decide) rfl (fun ls hl => ?_)
  exact w_X4_wrongPlace_2 X lb_N (0 : Int32) _ _ _ h hW (lv_sub hl [1, 0] rfl)
abbrev rmX7_isSort : Room := { frames := 0, cells := 0, slots := 0, locals := 0 }
def f_X7_isSort (x0 : Int32) : Int32 := if x0 < 0 then (0 : Int32) else if (6 : Int32) ≤ x0 then (0 : Int32) else (1 : Int32)
theorem zb_X7_isSort (x0 : Int32) : f_X7_isSort x0 = 0 ∨ f_X7_isSort x0 = 1 := by
  unfold f_X7_isSort
  (repeat' split) <;> first | exact Or.inl rfl | exact Or.inr rfl | exact Or.inl rfl
set_option maxRecDepth 20000 in
set_option maxHeartbeats 4000000 in
theorem m_X7_isSort (l : Launch) (G : lb_G) (σ : lb_Mem) (x0 : Int32) (qr : Int32) (h : f_X7_isSort x0 = qr) : lb_M l yX7_isSort cX7_isSort 1 (some .boolean) rmX7_isSort [.int x0] G σ (lb_QI G qr σ) := by
  refine lb_start RX7 (by decide +kernel) rfl (Nat.le_of_ble_eq_true rfl) (fun p e s m below meth c X hW ls hl => ?_)
  have hx := X.1
  have hb := X.2.1
  have hl : lv_has ls 1 [(0, .int x0)] := hl
  have h : (if x0 < 0 then (0 : Int32) else if (6 : Int32) ≤ x0 then (0 : Int32) else (1 : Int32)) = qr := h
  skip
  refine lv_iload_n hx hb dX7_isSort_0 rfl (lv_at hl 0 rfl) ?_
  refine lv_if_lt (tgt := 14) hx hb dX7_isSort_1 (by decide) (fun c1 => ?_) (fun c1 => ?_)
  · have h := (if_pos c1).symm.trans h
    refine lv_iconst (v := 0) hx hb dX7_isSort_14 rfl ?_
    subst h
    exact lb_zret X hW (Or.inl rfl) dX7_isSort_15
  · have h := (if_neg c1).symm.trans h
    refine lv_iload_n hx hb dX7_isSort_4 rfl (lv_at hl 0 rfl) ?_
    refine lv_bipush (v := 6) hx hb dX7_isSort_5 rfl ?_
    refine lv_icmp_ge (tgt := 14) hx hb dX7_isSort_7 (by decide) (fun c7 => ?_) (fun c7 => ?_)
    · have h := (if_pos c7).symm.trans h
      refine lv_iconst (v := 0) hx hb dX7_isSort_14 rfl ?_
      subst h
      exact lb_zret X hW (Or.inl rfl) dX7_isSort_15
    · have h := (if_neg c7).symm.trans h
      refine lv_iconst (v := 1) hx hb dX7_isSort_10 rfl ?_
      refine lv_goto (tgt := 15) hx hb dX7_isSort_11 (by decide) ?_
      subst h
      exact lb_zret X hW (Or.inr rfl) dX7_isSort_15
theorem rc_X7_74 {p : Program} {l : Launch} {e : Env} {R : Room} {s : State} {m : MethodId} {args : Array Value} {below : List Frame} {meth : Method} {c : Code} {H : Heap} {locs : List Loc} {cells slots : Nat} {Q : State → Prop} {cc : ByteArray} {pc nL : Nat} {ls : Array Slot} {rest : List Value} {G : lb_G} {σ : lb_Mem} {ret : Option FieldType} (X : lb_C G p s m args meth c cc nL RX7 ret) (hW : lb_W G s σ H locs) (x0 : Int32) (hR : lb_room rmX7_isSort R 1) (hls : ls.size = nL) (hrest : (rest.map fun v => v.category).sum ≤ 8) (d : decode cc pc = .ok (.invokestatic 74, 3)) (hcap : cells ≤ R.cells ∧ slots ≤ R.slots) (kk : ∀ (H1 : Heap) (locs1 : List Loc), lb_W G s σ H1 locs1 → W p l e R s m args below meth c H1 locs1 cells slots Q (F0 m (pc + 3) ls (.int (f_X7_isSort x0) :: rest))) : W p l e R s m args below meth c H locs cells slots Q (F0 m pc ls (.int x0 :: rest)) :=
  lb_goI hW (lb_runS (As := [.int x0]) X hW (m_X7_isSort l G σ x0 _ rfl) (n := 1) ⟨qw_357, qw_44, qw_359, by decide +kernel⟩ hR qw_358 rfl hls hrest d hcap) kk
abbrev rmX7_addPerson : Room := { frames := 1, cells := 0, slots := 0, locals := 20 }
def f_X7_addPerson (b0 : Nat) (x1 : Int32) (σ : lb_Mem) : Option (Int32 × lb_Mem) := if (5 : Int32) ≤ (σ b0 10) then some ((0 : Int32), σ) else if (f_X7_isSort x1) = 0 then some ((0 : Int32), σ) else lb_chk (lb_ix (σ b0 10) 5) (lb_let (lb_sto σ (b0 + 14) (σ b0 10).toNatClampNeg x1) (fun s26 : lb_Mem => lb_chk (lb_ix (s26 b0 10) 5) (lb_let (lb_sto s26 (b0 + 15) (s26 b0 10).toNatClampNeg (20 : Int32)) (fun s37 : lb_Mem => lb_let (lb_sto s37 b0 10 ((s37 b0 10) + (1 : Int32))) (fun s45 : lb_Mem => some ((1 : Int32), s45))))))
set_option maxRecDepth 20000 in
set_option maxHeartbeats 4000000 in
theorem m_X7_addPerson (l : Launch) (G : lb_G) (σ : lb_Mem) {b0 : Nat} (hb0 : lb_V b0) (x1 : Int32) (qr : (Int32 × lb_Mem)) (h : f_X7_addPerson b0 x1 σ = some qr) : lb_M l yX7_addPerson cX7_addPerson 2 (some .boolean) rmX7_addPerson [.ref (lb_ad G b0), .int x1] G σ (lb_QI G qr.1 qr.2) := by
  refine lb_start RX7 (by decide +kernel) rfl (Nat.le_of_ble_eq_true rfl) (fun p e s m below meth c X hW ls hl => ?_)
  have hx := X.1
  have hb := X.2.1
  have hl : lv_has ls 2 [(0, .ref (lb_ad G b0)), (1, .int x1)] := hl
  have h : (if (5 : Int32) ≤ (σ b0 10) then some ((0 : Int32), σ) else if (f_X7_isSort x1) = 0 then some ((0 : Int32), σ) else lb_chk (lb_ix (σ b0 10) 5) (lb_let (lb_sto σ (b0 + 14) (σ b0 10).toNatClampNeg x1) (fun s26 : lb_Mem => lb_chk (lb_ix (s26 b0 10) 5) (lb_let (lb_sto s26 (b0 + 15) (s26 b0 10).toNatClampNeg (20 : Int32)) (fun s37 : lb_Mem => lb_let (lb_sto s37 b0 10 ((s37 b0 10) + (1 : Int32))) (fun s45 : lb_Mem => some ((1 : Int32), s45))))))) = some qr := h
  skip
  refine lv_aload_n hx hb dX7_addPerson_0 rfl (lv_at hl 0 rfl) ?_
  refine rg_X7_62 X hW hb0 dX7_addPerson_1 ?_
  refine lv_iconst (v := 5) hx hb dX7_addPerson_4 rfl ?_
  refine lv_icmp_ge (tgt := 15) hx hb dX7_addPerson_5 (by decide) (fun c5 => ?_) (fun c5 => ?_)
  · have h := (if_pos c5).symm.trans h
    refine lv_iconst (v := 0) hx hb dX7_addPerson_15 rfl ?_
    obtain rfl := Option.some.inj h
    exact lb_zret X hW (Or.inl rfl) dX7_addPerson_16
  · have h := (if_neg c5).symm.trans h
    refine lv_iload_n hx hb dX7_addPerson_8 rfl (lv_at hl 1 rfl) ?_
    refine rc_X7_74 X hW x1 ⟨⟨rfl, rfl⟩, Nat.le_of_ble_eq_true rfl, Nat.le_of_ble_eq_true rfl⟩ hl.1 (Nat.le_of_ble_eq_true rfl) dX7_addPerson_9 ⟨Nat.zero_le _, Nat.zero_le _⟩ (fun H locs hW => ?_)
    refine lv_if_ne (tgt := 17) hx hb dX7_addPerson_12 (by decide) (fun c12 => ?_) (fun c12 => ?_)
    · have h := (if_neg c12).symm.trans h
      refine lv_aload_n hx hb dX7_addPerson_17 rfl (lv_at hl 0 rfl) ?_
      refine rg_X7_52 (k := (b0 + 14)) X hW hb0 rfl dX7_addPerson_18 ?_
      refine lv_aload_n hx hb dX7_addPerson_21 rfl (lv_at hl 0 rfl) ?_
      refine rg_X7_62 X hW hb0 dX7_addPerson_22 ?_
      refine lv_iload_n hx hb dX7_addPerson_25 rfl (lv_at hl 1 rfl) ?_
      obtain ⟨i26, h⟩ := lb_chk_in h
      refine lb_ist X hW (lb_Var14 hb0) i26 dX7_addPerson_26 (fun H locs hW => ?_)
      obtain ⟨s26, e26⟩ : ∃ z, z = lb_sto σ (b0 + 14) (σ b0 10).toNatClampNeg x1 := ⟨_, rfl⟩
      rw [← e26] at hW
      have h := lb_letI e26 h
      refine lv_aload_n hx hb dX7_addPerson_27 rfl (lv_at hl 0 rfl) ?_
      refine rg_X7_55 (k := (b0 + 15)) X hW hb0 rfl dX7_addPerson_28 ?_
      refine lv_aload_n hx hb dX7_addPerson_31 rfl (lv_at hl 0 rfl) ?_
      refine rg_X7_62 X hW hb0 dX7_addPerson_32 ?_
      refine lv_bipush (v := 20) hx hb dX7_addPerson_35 rfl ?_
      obtain ⟨i37, h⟩ := lb_chk_in h
      refine lb_ist X hW (lb_Var15 hb0) i37 dX7_addPerson_37 (fun H locs hW => ?_)
      obtain ⟨s37, e37⟩ : ∃ z, z = lb_sto s26 (b0 + 15) (s26 b0 10).toNatClampNeg (20 : Int32) := ⟨_, rfl⟩
      rw [← e37] at hW
      have h := lb_letI e37 h
      refine lv_aload_n hx hb dX7_addPerson_38 rfl (lv_at hl 0 rfl) ?_
      refine lv_dup hx hb dX7_addPerson_39 rfl ?_
      refine rg_X7_62 X hW hb0 dX7_addPerson_40 ?_
      refine lv_iconst (v := 1) hx hb dX7_addPerson_43 rfl ?_
      refine lv_iadd hx hb dX7_addPerson_44 ?_
      refine rp_X7_62 X hW hb0 dX7_addPerson_45 (fun H locs hW => ?_)
      obtain ⟨s45, e45⟩ : ∃ z, z = lb_sto s37 b0 10 ((s37 b0 10) + (1 : Int32)) := ⟨_, rfl⟩
      rw [← e45] at hW
      have h := lb_letI e45 h
      refine lv_iconst (v := 1) hx hb dX7_addPerson_48 rfl ?_
      obtain rfl := Option.some.inj h
      exact lb_zret X hW (Or.inr rfl) dX7_addPerson_49
    · have h := (if_pos c12).symm.trans h
      refine lv_iconst (v := 0) hx hb dX7_addPerson_15 rfl ?_
      obtain rfl := Option.some.inj h
      exact lb_zret X hW (Or.inl rfl) dX7_addPerson_16
abbrev rmX7_isKind : Room := { frames := 0, cells := 0, slots := 0, locals := 0 }
def f_X7_isKind (x0 : Int32) : Int32 := if x0 < 0 then (0 : Int32) else if (6 : Int32) ≤ x0 then (0 : Int32) else (1 : Int32)
theorem zb_X7_isKind (x0 : Int32) : f_X7_isKind x0 = 0 ∨ f_X7_isKind x0 = 1 := by
  unfold f_X7_isKind
  (repeat' split) <;> first | exact Or.inl rfl | exact Or.inr rfl | exact Or.inl rfl
set_option maxRecDepth 20000 in
set_option maxHeartbeats 4000000 in
theorem m_X7_isKind (l : Launch) (G : lb_G) (σ : lb_Mem) (x0 : Int32) (qr : Int32) (h : f_X7_isKind x0 = qr) : lb_M l yX7_isKind cX7_isKind 1 (some .boolean) rmX7_isKind [.int x0] G σ (lb_QI G qr σ) := by
  refine lb_start RX7 (by decide +kernel) rfl (Nat.le_of_ble_eq_true rfl) (fun p e s m below meth c X hW ls hl => ?_)
  have hx := X.1
  have hb := X.2.1
  have hl : lv_has ls 1 [(0, .int x0)] := hl
  have h : (if x0 < 0 then (0 : Int32) else if (6 : Int32) ≤ x0 then (0 : Int32) else (1 : Int32)) = qr := h
  skip
  refine lv_iload_n hx hb dX7_isKind_0 rfl (lv_at hl 0 rfl) ?_
  refine lv_if_lt (tgt := 14) hx hb dX7_isKind_1 (by decide) (fun c1 => ?_) (fun c1 => ?_)
  · have h := (if_pos c1).symm.trans h
    refine lv_iconst (v := 0) hx hb dX7_isKind_14 rfl ?_
    subst h
    exact lb_zret X hW (Or.inl rfl) dX7_isKind_15
  · have h := (if_neg c1).symm.trans h
    refine lv_iload_n hx hb dX7_isKind_4 rfl (lv_at hl 0 rfl) ?_
    refine lv_bipush (v := 6) hx hb dX7_isKind_5 rfl ?_
    refine lv_icmp_ge (tgt := 14) hx hb dX7_isKind_7 (by decide) (fun c7 => ?_) (fun c7 => ?_)
    · have h := (if_pos c7).symm.trans h
      refine lv_iconst (v := 0) hx hb dX7_isKind_14 rfl ?_
      subst h
      exact lb_zret X hW (Or.inl rfl) dX7_isKind_15
    · have h := (if_neg c7).symm.trans h
      refine lv_iconst (v := 1) hx hb dX7_isKind_10 rfl ?_
      refine lv_goto (tgt := 15) hx hb dX7_isKind_11 (by decide) ?_
      subst h
      exact lb_zret X hW (Or.inr rfl) dX7_isKind_15
abbrev rmX7_isLabel : Room := { frames := 1, cells := 0, slots := 0, locals := 20 }
def f_X7_isLabel (x0 : Int32) : Int32 := if (f_X7_isSort x0) = 0 then if x0 = (6 : Int32) then (1 : Int32) else (0 : Int32) else (1 : Int32)
theorem zb_X7_isLabel (x0 : Int32) : f_X7_isLabel x0 = 0 ∨ f_X7_isLabel x0 = 1 := by
  unfold f_X7_isLabel
  (repeat' split) <;> first | exact Or.inl rfl | exact Or.inr rfl | exact zb_X7_isSort _
set_option maxRecDepth 20000 in
set_option maxHeartbeats 4000000 in
theorem m_X7_isLabel (l : Launch) (G : lb_G) (σ : lb_Mem) (x0 : Int32) (qr : Int32) (h : f_X7_isLabel x0 = qr) : lb_M l yX7_isLabel cX7_isLabel 1 (some .boolean) rmX7_isLabel [.int x0] G σ (lb_QI G qr σ) := by
  refine lb_start RX7 (by decide +kernel) rfl (Nat.le_of_ble_eq_true rfl) (fun p e s m below meth c X hW ls hl => ?_)
  have hx := X.1
  have hb := X.2.1
  have hl : lv_has ls 1 [(0, .int x0)] := hl
  have h : (if (f_X7_isSort x0) = 0 then if x0 = (6 : Int32) then (1 : Int32) else (0 : Int32) else (1 : Int32)) = qr := h
  skip
  refine lv_iload_n hx hb dX7_isLabel_0 rfl (lv_at hl 0 rfl) ?_
  refine rc_X7_74 X hW x0 ⟨⟨rfl, rfl⟩, Nat.le_of_ble_eq_true rfl, Nat.le_of_ble_eq_true rfl⟩ hl.1 (Nat.le_of_ble_eq_true rfl) dX7_isLabel_1 ⟨Nat.zero_le _, Nat.zero_le _⟩ (fun H locs hW => ?_)
  refine lv_if_ne (tgt := 13) hx hb dX7_isLabel_4 (by decide) (fun c4 => ?_) (fun c4 => ?_)
  · have h := (if_neg c4).symm.trans h
    refine lv_iconst (v := 1) hx hb dX7_isLabel_13 rfl ?_
    refine lv_goto (tgt := 18) hx hb dX7_isLabel_14 (by decide) ?_
    subst h
    exact lb_zret X hW (Or.inr rfl) dX7_isLabel_18
  · have h := (if_pos c4).symm.trans h
    refine lv_iload_n hx hb dX7_isLabel_7 rfl (lv_at hl 0 rfl) ?_
    refine lv_bipush (v := 6) hx hb dX7_isLabel_8 rfl ?_
    refine lv_icmp_ne (tgt := 17) hx hb dX7_isLabel_10 (by decide) (fun c10 => ?_) (fun c10 => ?_)
    · have h := (if_neg c10).symm.trans h
      refine lv_iconst (v := 0) hx hb dX7_isLabel_17 rfl ?_
      subst h
      exact lb_zret X hW (Or.inl rfl) dX7_isLabel_18
    · have h := (if_pos c10).symm.trans h
      refine lv_iconst (v := 1) hx hb dX7_isLabel_13 rfl ?_
      refine lv_goto (tgt := 18) hx hb dX7_isLabel_14 (by decide) ?_
      subst h
      exact lb_zret X hW (Or.inr rfl) dX7_isLabel_18
abbrev rmX7_hasPerson : Room := { frames := 0, cells := 0, slots := 0, locals := 0 }
def f_X7_hasPerson (σ : lb_Mem) (b0 : Nat) (x1 : Int32) : Int32 := if x1 < 0 then (0 : Int32) else if (σ b0 10) ≤ x1 then (0 : Int32) else (1 : Int32)
theorem zb_X7_hasPerson (σ : lb_Mem) (b0 : Nat) (x1 : Int32) : f_X7_hasPerson σ b0 x1 = 0 ∨ f_X7_hasPerson σ b0 x1 = 1 := by
  unfold f_X7_hasPerson
  (repeat' split) <;> first | exact Or.inl rfl | exact Or.inr rfl | exact Or.inl rfl
set_option maxRecDepth 20000 in
set_option maxHeartbeats 4000000 in
theorem m_X7_hasPerson (l : Launch) (G : lb_G) (σ : lb_Mem) {b0 : Nat} (hb0 : lb_V b0) (x1 : Int32) (qr : Int32) (h : f_X7_hasPerson σ b0 x1 = qr) : lb_M l yX7_hasPerson cX7_hasPerson 2 (some .boolean) rmX7_hasPerson [.ref (lb_ad G b0), .int x1] G σ (lb_QI G qr σ) := by
  refine lb_start RX7 (by decide +kernel) rfl (Nat.le_of_ble_eq_true rfl) (fun p e s m below meth c X hW ls hl => ?_)
  have hx := X.1
  have hb := X.2.1
  have hl : lv_has ls 2 [(0, .ref (lb_ad G b0)), (1, .int x1)] := hl
  have h : (if x1 < 0 then (0 : Int32) else if (σ b0 10) ≤ x1 then (0 : Int32) else (1 : Int32)) = qr := h
  skip
  refine lv_iload_n hx hb dX7_hasPerson_0 rfl (lv_at hl 1 rfl) ?_
  refine lv_if_lt (tgt := 16) hx hb dX7_hasPerson_1 (by decide) (fun c1 => ?_) (fun c1 => ?_)
  · have h := (if_pos c1).symm.trans h
    refine lv_iconst (v := 0) hx hb dX7_hasPerson_16 rfl ?_
    subst h
    exact lb_zret X hW (Or.inl rfl) dX7_hasPerson_17
  · have h := (if_neg c1).symm.trans h
    refine lv_iload_n hx hb dX7_hasPerson_4 rfl (lv_at hl 1 rfl) ?_
    refine lv_aload_n hx hb dX7_hasPerson_5 rfl (lv_at hl 0 rfl) ?_
    refine rg_X7_62 X hW hb0 dX7_hasPerson_6 ?_
    refine lv_icmp_ge (tgt := 16) hx hb dX7_hasPerson_9 (by decide) (fun c9 => ?_) (fun c9 => ?_)
    · have h := (if_pos c9).symm.trans h
      refine lv_iconst (v := 0) hx hb dX7_hasPerson_16 rfl ?_
      subst h
      exact lb_zret X hW (Or.inl rfl) dX7_hasPerson_17
    · have h := (if_neg c9).symm.trans h
      refine lv_iconst (v := 1) hx hb dX7_hasPerson_12 rfl ?_
      refine lv_goto (tgt := 17) hx hb dX7_hasPerson_13 (by decide) ?_
      subst h
      exact lb_zret X hW (Or.inr rfl) dX7_hasPerson_17
