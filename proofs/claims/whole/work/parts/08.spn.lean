abbrev rmX3_spoon : Room := { frames := 0, cells := 0, slots := 0, locals := 0 }
def f_X3_spoon (x1 : Int32) (x2 : Int32) (x3 : Int32) : Int32 := if x2 = 0 then (2 : Int32) else (-x2)
set_option maxRecDepth 20000 in
set_option maxHeartbeats 4000000 in
theorem m_X3_spoon (l : Launch) (G : lb_G) (σ : lb_Mem) {k0 : Nat} {C0 : String} (hk0 : lb_is G σ k0 C0) (x1 : Int32) (x2 : Int32) (x3 : Int32) (qr : Int32) (h : f_X3_spoon x1 x2 x3 = qr) : lb_M l yX3_spoon cX3_spoon 4 (some .int) rmX3_spoon [.ref (lb_ad G k0), .int x1, .int x2, .int x3] G σ (lb_QI G qr σ) := by
  refine lb_start RX3 (by decide +kernel) rfl (Nat.le_of_ble_eq_true rfl) (fun p e s m below meth c X hW ls hl => ?_)
  have hx := X.1
  have hb := X.2.1
  have hl : lv_has ls 4 [(0, .ref (lb_ad G k0)), (1, .int x1), (2, .int x2), (3, .int x3)] := hl
  have h : (if x2 = 0 then (2 : Int32) else (-x2)) = qr := h
  skip
  refine lv_iload_n hx hb dX3_spoon_0 rfl (lv_at hl 2 rfl) ?_
  refine lv_if_ne (tgt := 8) hx hb dX3_spoon_1 (by decide) (fun c1 => ?_) (fun c1 => ?_)
  · have h := (if_neg c1).symm.trans h
    refine lv_iload_n hx hb dX3_spoon_8 rfl (lv_at hl 2 rfl) ?_
    refine lv_ineg hx hb dX3_spoon_9 ?_
    subst h
    exact lb_iret X hW dX3_spoon_10
  · have h := (if_pos c1).symm.trans h
    refine lv_iconst (v := 2) hx hb dX3_spoon_4 rfl ?_
    refine lv_goto (tgt := 10) hx hb dX3_spoon_5 (by decide) ?_
    subst h
    exact lb_iret X hW dX3_spoon_10
abbrev rmX6_spoon : Room := { frames := 1, cells := 0, slots := 0, locals := 23 }
def f_X6_spoon (x1 : Int32) (x2 : Int32) (x3 : Int32) : Int32 := ((2 : Int32) * (f_X3_spoon x1 x2 x3))
set_option maxRecDepth 20000 in
set_option maxHeartbeats 4000000 in
theorem m_X6_spoon (l : Launch) (G : lb_G) (σ : lb_Mem) {k0 : Nat} {C0 : String} (hk0 : lb_is G σ k0 C0) (x1 : Int32) (x2 : Int32) (x3 : Int32) (qr : Int32) (h : f_X6_spoon x1 x2 x3 = qr) : lb_M l yX6_spoon cX6_spoon 4 (some .int) rmX6_spoon [.ref (lb_ad G k0), .int x1, .int x2, .int x3] G σ (lb_QI G qr σ) := by
  refine lb_start RX6 (by decide +kernel) rfl (Nat.le_of_ble_eq_true rfl) (fun p e s m below meth c X hW ls hl => ?_)
  have hx := X.1
  have hb := X.2.1
  have hl : lv_has ls 4 [(0, .ref (lb_ad G k0)), (1, .int x1), (2, .int x2), (3, .int x3)] := hl
  have h : (((2 : Int32) * (f_X3_spoon x1 x2 x3))) = qr := h
  skip
  refine lv_iconst (v := 2) hx hb dX6_spoon_0 rfl ?_
  refine lv_aload_n hx hb dX6_spoon_1 rfl (lv_at hl 0 rfl) ?_
  refine lv_iload_n hx hb dX6_spoon_2 rfl (lv_at hl 1 rfl) ?_
  refine lv_iload_n hx hb dX6_spoon_3 rfl (lv_at hl 2 rfl) ?_
  refine lv_iload_n hx hb dX6_spoon_4 rfl (lv_at hl 3 rfl) ?_
  refine lb_superI (As := [.int x1, .int x2, .int x3]) (n := 3) X hW hk0 (m_X3_spoon l G σ hk0 x1 x2 x3 _ rfl) ⟨qw_436, qw_429, qw_89, qw_427, qw_45, qw_451⟩ (by decide +kernel) ⟨⟨rfl, rfl⟩, Nat.le_of_ble_eq_true rfl, Nat.le_of_ble_eq_true rfl⟩ rfl hl.1 (Nat.le_of_ble_eq_true rfl) dX6_spoon_5 ⟨Nat.zero_le _, Nat.zero_le _⟩ (fun H locs hW => ?_)
  refine lv_imul hx hb dX6_spoon_8 ?_
  subst h
  exact lb_iret X hW dX6_spoon_9
abbrev rmX0_spoon : Room := { frames := 2, cells := 0, slots := 0, locals := 46 }
def f_X0_spoon (x1 : Int32) (x2 : Int32) (x3 : Int32) : Int32 := lb_let ((f_X6_spoon x1 x2 x3)) (fun v7 : Int32 => if x2 ≤ (1 : Int32) then v7 else (v7 - (x1 / (2 : Int32))))
set_option maxRecDepth 20000 in
set_option maxHeartbeats 4000000 in
theorem m_X0_spoon (l : Launch) (G : lb_G) (σ : lb_Mem) {k0 : Nat} {C0 : String} (hk0 : lb_is G σ k0 C0) (x1 : Int32) (x2 : Int32) (x3 : Int32) (qr : Int32) (h : f_X0_spoon x1 x2 x3 = qr) : lb_M l yX0_spoon cX0_spoon 5 (some .int) rmX0_spoon [.ref (lb_ad G k0), .int x1, .int x2, .int x3] G σ (lb_QI G qr σ) := by
  refine lb_start RX0 (by decide +kernel) rfl (Nat.le_of_ble_eq_true rfl) (fun p e s m below meth c X hW ls hl => ?_)
  have hx := X.1
  have hb := X.2.1
  have hl : lv_has ls 5 [(0, .ref (lb_ad G k0)), (1, .int x1), (2, .int x2), (3, .int x3)] := hl
  have h : (lb_let ((f_X6_spoon x1 x2 x3)) (fun v7 : Int32 => if x2 ≤ (1 : Int32) then v7 else (v7 - (x1 / (2 : Int32))))) = qr := h
  skip
  refine lv_aload_n hx hb dX0_spoon_0 rfl (lv_at hl 0 rfl) ?_
  refine lv_iload_n hx hb dX0_spoon_1 rfl (lv_at hl 1 rfl) ?_
  refine lv_iload_n hx hb dX0_spoon_2 rfl (lv_at hl 2 rfl) ?_
  refine lv_iload_n hx hb dX0_spoon_3 rfl (lv_at hl 3 rfl) ?_
  refine lb_superI (As := [.int x1, .int x2, .int x3]) (n := 3) X hW hk0 (m_X6_spoon l G σ hk0 x1 x2 x3 _ rfl) ⟨qw_433, qw_1128, qw_103, qw_434, qw_46, qw_435⟩ (by decide +kernel) ⟨⟨rfl, rfl⟩, Nat.le_of_ble_eq_true rfl, Nat.le_of_ble_eq_true rfl⟩ rfl hl.1 (Nat.le_of_ble_eq_true rfl) dX0_spoon_4 ⟨Nat.zero_le _, Nat.zero_le _⟩ (fun H locs hW => ?_)
  refine lv_topi (fun v7 e7 => ?_)
  have h := lb_letI e7 h
  refine lv_istore (lv' := [(4, .int v7), (0, .ref (lb_ad G k0)), (1, .int x1), (2, .int x2), (3, .int x3)]) hx hb dX0_spoon_7 hl (by decide) rfl (fun ls hl => ?_)
  refine lv_iload_n hx hb dX0_spoon_9 rfl (lv_at hl 3 rfl) ?_
  refine lv_iconst (v := 1) hx hb dX0_spoon_10 rfl ?_
  refine lv_icmp_le (tgt := 23) hx hb dX0_spoon_11 (by decide) (fun c11 => ?_) (fun c11 => ?_)
  · have h := (if_pos c11).symm.trans h
    refine lv_iload hx hb dX0_spoon_23 (lv_at hl 0 rfl) ?_
    subst h
    exact lb_iret X hW dX0_spoon_25
  · have h := (if_neg c11).symm.trans h
    refine lv_iload hx hb dX0_spoon_14 (lv_at hl 0 rfl) ?_
    refine lv_iload_n hx hb dX0_spoon_16 rfl (lv_at hl 2 rfl) ?_
    refine lv_iconst (v := 2) hx hb dX0_spoon_17 rfl ?_
    refine lv_idiv hx hb dX0_spoon_18 (by decide) ?_
    refine lv_isub hx hb dX0_spoon_19 ?_
    refine lv_goto (tgt := 25) hx hb dX0_spoon_20 (by decide) ?_
    subst h
    exact lb_iret X hW dX0_spoon_25
abbrev rmX1_spoon : Room := { frames := 1, cells := 0, slots := 0, locals := 23 }
def f_X1_spoon (x1 : Int32) (x2 : Int32) (x3 : Int32) : Int32 := ((f_X3_spoon x1 x2 x3) - x3)
set_option maxRecDepth 20000 in
set_option maxHeartbeats 4000000 in
theorem m_X1_spoon (l : Launch) (G : lb_G) (σ : lb_Mem) {k0 : Nat} {C0 : String} (hk0 : lb_is G σ k0 C0) (x1 : Int32) (x2 : Int32) (x3 : Int32) (qr : Int32) (h : f_X1_spoon x1 x2 x3 = qr) : lb_M l yX1_spoon cX1_spoon 4 (some .int) rmX1_spoon [.ref (lb_ad G k0), .int x1, .int x2, .int x3] G σ (lb_QI G qr σ) := by
  refine lb_start RX1 (by decide +kernel) rfl (Nat.le_of_ble_eq_true rfl) (fun p e s m below meth c X hW ls hl => ?_)
  have hx := X.1
  have hb := X.2.1
  have hl : lv_has ls 4 [(0, .ref (lb_ad G k0)), (1, .int x1), (2, .int x2), (3, .int x3)] := hl
  have h : (((f_X3_spoon x1 x2 x3) - x3)) = qr := h
  skip
  refine lv_aload_n hx hb dX1_spoon_0 rfl (lv_at hl 0 rfl) ?_
  refine lv_iload_n hx hb dX1_spoon_1 rfl (lv_at hl 1 rfl) ?_
  refine lv_iload_n hx hb dX1_spoon_2 rfl (lv_at hl 2 rfl) ?_
  refine lv_iload_n hx hb dX1_spoon_3 rfl (lv_at hl 3 rfl) ?_
  refine lb_superI (As := [.int x1, .int x2, .int x3]) (n := 3) X hW hk0 (m_X3_spoon l G σ hk0 x1 x2 x3 _ rfl) ⟨qw_440, qw_429, qw_117, qw_427, qw_45, qw_451⟩ (by decide +kernel) ⟨⟨rfl, rfl⟩, Nat.le_of_ble_eq_true rfl, Nat.le_of_ble_eq_true rfl⟩ rfl hl.1 (Nat.le_of_ble_eq_true rfl) dX1_spoon_4 ⟨Nat.zero_le _, Nat.zero_le _⟩ (fun H locs hW => ?_)
  refine lv_iload_n hx hb dX1_spoon_7 rfl (lv_at hl 3 rfl) ?_
  refine lv_isub hx hb dX1_spoon_8 ?_
  subst h
  exact lb_iret X hW dX1_spoon_9
abbrev rmX5_spoon : Room := { frames := 1, cells := 0, slots := 0, locals := 23 }
def f_X5_spoon (x1 : Int32) (x2 : Int32) (x3 : Int32) : Int32 := ((f_X3_spoon x1 x2 x3) + (x1 / (4 : Int32)))
set_option maxRecDepth 20000 in
set_option maxHeartbeats 4000000 in
theorem m_X5_spoon (l : Launch) (G : lb_G) (σ : lb_Mem) {k0 : Nat} {C0 : String} (hk0 : lb_is G σ k0 C0) (x1 : Int32) (x2 : Int32) (x3 : Int32) (qr : Int32) (h : f_X5_spoon x1 x2 x3 = qr) : lb_M l yX5_spoon cX5_spoon 4 (some .int) rmX5_spoon [.ref (lb_ad G k0), .int x1, .int x2, .int x3] G σ (lb_QI G qr σ) := by
  refine lb_start RX5 (by decide +kernel) rfl (Nat.le_of_ble_eq_true rfl) (fun p e s m below meth c X hW ls hl => ?_)
  have hx := X.1
  have hb := X.2.1
  have hl : lv_has ls 4 [(0, .ref (lb_ad G k0)), (1, .int x1), (2, .int x2), (3, .int x3)] := hl
  have h : (((f_X3_spoon x1 x2 x3) + (x1 / (4 : Int32)))) = qr := h
  skip
  refine lv_aload_n hx hb dX5_spoon_0 rfl (lv_at hl 0 rfl) ?_
  refine lv_iload_n hx hb dX5_spoon_1 rfl (lv_at hl 1 rfl) ?_
  refine lv_iload_n hx hb dX5_spoon_2 rfl (lv_at hl 2 rfl) ?_
  refine lv_iload_n hx hb dX5_spoon_3 rfl (lv_at hl 3 rfl) ?_
  refine lb_superI (As := [.int x1, .int x2, .int x3]) (n := 3) X hW hk0 (m_X3_spoon l G σ hk0 x1 x2 x3 _ rfl) ⟨qw_447, qw_429, qw_96, qw_427, qw_45, qw_451⟩ (by decide +kernel) ⟨⟨rfl, rfl⟩, Nat.le_of_ble_eq_true rfl, Nat.le_of_ble_eq_true rfl⟩ rfl hl.1 (Nat.le_of_ble_eq_true rfl) dX5_spoon_4 ⟨Nat.zero_le _, Nat.zero_le _⟩ (fun H locs hW => ?_)
  refine lv_iload_n hx hb dX5_spoon_7 rfl (lv_at hl 1 rfl) ?_
  refine lv_iconst (v := 4) hx hb dX5_spoon_8 rfl ?_
  refine lv_idiv hx hb dX5_spoon_9 (by decide) ?_
  refine lv_iadd hx hb dX5_spoon_10 ?_
  subst h
  exact lb_iret X hW dX5_spoon_11
abbrev rmX2_spoon : Room := { frames := 2, cells := 0, slots := 0, locals := 46 }
def f_X2_spoon (x1 : Int32) (x2 : Int32) (x3 : Int32) : Int32 := (if (0 : Int32) < (f_X5_spoon x1 x2 x3) then (f_X5_spoon x1 x2 x3) else (0 : Int32))
set_option maxRecDepth 20000 in
set_option maxHeartbeats 4000000 in
theorem m_X2_spoon (l : Launch) (G : lb_G) (σ : lb_Mem) {k0 : Nat} {C0 : String} (hk0 : lb_is G σ k0 C0) (x1 : Int32) (x2 : Int32) (x3 : Int32) (qr : Int32) (h : f_X2_spoon x1 x2 x3 = qr) : lb_M l yX2_spoon cX2_spoon 4 (some .int) rmX2_spoon [.ref (lb_ad G k0), .int x1, .int x2, .int x3] G σ (lb_QI G qr σ) := by
  refine lb_start RX2 (by decide +kernel) rfl (Nat.le_of_ble_eq_true rfl) (fun p e s m below meth c X hW ls hl => ?_)
  have hx := X.1
  have hb := X.2.1
  have hl : lv_has ls 4 [(0, .ref (lb_ad G k0)), (1, .int x1), (2, .int x2), (3, .int x3)] := hl
  have h : ((if (0 : Int32) < (f_X5_spoon x1 x2 x3) then (f_X5_spoon x1 x2 x3) else (0 : Int32))) = qr := h
  skip
  refine lv_iconst (v := 0) hx hb dX2_spoon_0 rfl ?_
  refine lv_aload_n hx hb dX2_spoon_1 rfl (lv_at hl 0 rfl) ?_
  refine lv_iload_n hx hb dX2_spoon_2 rfl (lv_at hl 1 rfl) ?_
  refine lv_iload_n hx hb dX2_spoon_3 rfl (lv_at hl 2 rfl) ?_
  refine lv_iload_n hx hb dX2_spoon_4 rfl (lv_at hl 3 rfl) ?_
  refine lb_superI (As := [.int x1, .int x2, .int x3]) (n := 3) X hW hk0 (m_X5_spoon l G σ hk0 x1 x2 x3 _ rfl) ⟨qw_444, qw_1129, qw_110, qw_445, qw_47, qw_446⟩ (by decide +kernel) ⟨⟨rfl, rfl⟩, Nat.le_of_ble_eq_true rfl, Nat.le_of_ble_eq_true rfl⟩ rfl hl.1 (Nat.le_of_ble_eq_true rfl) dX2_spoon_5 ⟨Nat.zero_le _, Nat.zero_le _⟩ (fun H locs hW => ?_)
  refine va_mmax hx hb (by rw [X.2.2.1]; exact hl.1.symm) X.2.2.2.1 (X.2.2.2.2.1 _ qw_448) (X.2.2.2.2.1 _ qw_278) (X.2.2.2.2.1 _ qw_55) (X.2.2.2.2.1 _ qw_279) (Nat.le_of_ble_eq_true rfl) (Nat.le_of_ble_eq_true rfl) (Nat.zero_le _) (Nat.zero_le _) dX2_spoon_8 ?_
  subst h
  exact lb_iret X hW dX2_spoon_11
def lb_spoon (i x1 x2 x3 : Int32) : Int32 := if i = 0 then f_X3_spoon x1 x2 x3 else if i = 1 then f_X6_spoon x1 x2 x3 else if i = 2 then f_X5_spoon x1 x2 x3 else if i = 3 then f_X0_spoon x1 x2 x3 else if i = 4 then f_X2_spoon x1 x2 x3 else f_X1_spoon x1 x2 x3
theorem lb_isK0 {G : lb_G} {σ : lb_Mem} {b : Nat} (h : lb_V b) : lb_is G σ (b + 1 + 1 + 0) RX3 := by rcases h with rfl | rfl | rfl <;> exact ⟨by decide, 3, _, _, rfl, rfl, rfl⟩
theorem lb_isK1 {G : lb_G} {σ : lb_Mem} {b : Nat} (h : lb_V b) : lb_is G σ (b + 1 + 1 + 1) RX6 := by rcases h with rfl | rfl | rfl <;> exact ⟨by decide, 6, _, _, rfl, rfl, rfl⟩
theorem lb_isK2 {G : lb_G} {σ : lb_Mem} {b : Nat} (h : lb_V b) : lb_is G σ (b + 1 + 1 + 2) RX5 := by rcases h with rfl | rfl | rfl <;> exact ⟨by decide, 5, _, _, rfl, rfl, rfl⟩
theorem lb_isK3 {G : lb_G} {σ : lb_Mem} {b : Nat} (h : lb_V b) : lb_is G σ (b + 1 + 1 + 3) RX0 := by rcases h with rfl | rfl | rfl <;> exact ⟨by decide, 0, _, _, rfl, rfl, rfl⟩
theorem lb_isK4 {G : lb_G} {σ : lb_Mem} {b : Nat} (h : lb_V b) : lb_is G σ (b + 1 + 1 + 4) RX2 := by rcases h with rfl | rfl | rfl <;> exact ⟨by decide, 2, _, _, rfl, rfl, rfl⟩
theorem lb_isK5 {G : lb_G} {σ : lb_Mem} {b : Nat} (h : lb_V b) : lb_is G σ (b + 1 + 1 + 5) RX1 := by rcases h with rfl | rfl | rfl <;> exact ⟨by decide, 1, _, _, rfl, rfl, rfl⟩
section LBT
variable {p : Program} {l : Launch} {e : Env} {R : Room} {s : State} {m : MethodId} {args : Array Value} {below : List Frame} {meth : Method} {c : Code} {H : Heap} {locs : List Loc} {cells slots : Nat} {Q : State → Prop}
variable {cc : ByteArray} {pc nL : Nat} {ls : Array Slot} {rest : List Value} {G : lb_G} {σ : lb_Mem} {own : String} {ret : Option FieldType}
theorem lb_spoonR {b idx : Nat} {i : Int32} (X : lb_C G p s m args meth c cc nL own ret) (hW : lb_W G s σ H locs) (hb : lb_V b) (hi : vp_in i 6) (x1 x2 x3 : Int32) (hF : 2 + 1 ≤ R.frames) (hL : 70 ≤ R.locals) (hls : ls.size = nL) (hrest : (rest.map fun v => v.category).sum ≤ 8) (hl : Cond.methodLink own idx yX3_spoon ∈ lb_tbl) (d : decode cc pc = .ok (.invokevirtual idx, 3)) (hcap : cells ≤ R.cells ∧ slots ≤ R.slots) (kk : ∀ (H1 : Heap) (locs1 : List Loc), lb_W G s σ H1 locs1 → W p l e R s m args below meth c H1 locs1 cells slots Q (F0 m (pc + 3) ls (.int (lb_spoon i x1 x2 x3) :: rest))) : W p l e R s m args below meth c H locs cells slots Q (F0 m pc ls (.int x3 :: .int x2 :: .int x1 :: .ref (lb_ad G (b + 1 + 1 + i.toNatClampNeg)) :: rest)) := by
  obtain ⟨j, hj, rfl⟩ := vp_in_of hi (by decide)
  rw [nI_clamp (by omega)]
  rcases (show j = 0 ∨ j = 1 ∨ j = 2 ∨ j = 3 ∨ j = 4 ∨ j = 5 by omega) with rfl | rfl | rfl | rfl | rfl | rfl
  · refine lb_virtI (As := [.int x1, .int x2, .int x3]) (n := 3) (x := yX3_spoon) (xc := cX3_spoon) (xL := 4) (xr := some .int) X hW (lb_isK0 hb) (m_X3_spoon l G σ (lb_isK0 hb) x1 x2 x3 _ rfl) ⟨hl, qw_429, qw_427, qw_428, qw_427, qw_45, qw_451, qw_451⟩ (by decide +kernel) ⟨⟨rfl, rfl⟩, Nat.le_trans (Nat.le_of_ble_eq_true rfl) hF, Nat.le_trans (Nat.le_of_ble_eq_true rfl) hL⟩ rfl hls hrest d hcap (fun H1 locs1 hW1 => ?_)
    exact kk H1 locs1 hW1
  · refine lb_virtI (As := [.int x1, .int x2, .int x3]) (n := 3) (x := yX3_spoon) (xc := cX3_spoon) (xL := 4) (xr := some .int) X hW (lb_isK1 hb) (m_X6_spoon l G σ (lb_isK1 hb) x1 x2 x3 _ rfl) ⟨hl, qw_429, qw_427, qw_450, qw_434, qw_46, qw_435, qw_451⟩ (by decide +kernel) ⟨⟨rfl, rfl⟩, Nat.le_trans (Nat.le_of_ble_eq_true rfl) hF, Nat.le_trans (Nat.le_of_ble_eq_true rfl) hL⟩ rfl hls hrest d hcap (fun H1 locs1 hW1 => ?_)
    exact kk H1 locs1 hW1
  · refine lb_virtI (As := [.int x1, .int x2, .int x3]) (n := 3) (x := yX3_spoon) (xc := cX3_spoon) (xL := 4) (xr := some .int) X hW (lb_isK2 hb) (m_X5_spoon l G σ (lb_isK2 hb) x1 x2 x3 _ rfl) ⟨hl, qw_429, qw_427, qw_449, qw_445, qw_47, qw_446, qw_451⟩ (by decide +kernel) ⟨⟨rfl, rfl⟩, Nat.le_trans (Nat.le_of_ble_eq_true rfl) hF, Nat.le_trans (Nat.le_of_ble_eq_true rfl) hL⟩ rfl hls hrest d hcap (fun H1 locs1 hW1 => ?_)
    exact kk H1 locs1 hW1
  · refine lb_virtI (As := [.int x1, .int x2, .int x3]) (n := 3) (x := yX3_spoon) (xc := cX3_spoon) (xL := 4) (xr := some .int) X hW (lb_isK3 hb) (m_X0_spoon l G σ (lb_isK3 hb) x1 x2 x3 _ rfl) ⟨hl, qw_429, qw_427, qw_430, qw_431, qw_48, qw_432, qw_451⟩ (by decide +kernel) ⟨⟨rfl, rfl⟩, Nat.le_trans (Nat.le_of_ble_eq_true rfl) hF, Nat.le_trans (Nat.le_of_ble_eq_true rfl) hL⟩ rfl hls hrest d hcap (fun H1 locs1 hW1 => ?_)
    exact kk H1 locs1 hW1
  · refine lb_virtI (As := [.int x1, .int x2, .int x3]) (n := 3) (x := yX3_spoon) (xc := cX3_spoon) (xL := 4) (xr := some .int) X hW (lb_isK4 hb) (m_X2_spoon l G σ (lb_isK4 hb) x1 x2 x3 _ rfl) ⟨hl, qw_429, qw_427, qw_441, qw_442, qw_49, qw_443, qw_451⟩ (by decide +kernel) ⟨⟨rfl, rfl⟩, Nat.le_trans (Nat.le_of_ble_eq_true rfl) hF, Nat.le_trans (Nat.le_of_ble_eq_true rfl) hL⟩ rfl hls hrest d hcap (fun H1 locs1 hW1 => ?_)
    exact kk H1 locs1 hW1
  · refine lb_virtI (As := [.int x1, .int x2, .int x3]) (n := 3) (x := yX3_spoon) (xc := cX3_spoon) (xL := 4) (xr := some .int) X hW (lb_isK5 hb) (m_X1_spoon l G σ (lb_isK5 hb) x1 x2 x3 _ rfl) ⟨hl, qw_429, qw_427, qw_437, qw_438, qw_50, qw_439, qw_451⟩ (by decide +kernel) ⟨⟨rfl, rfl⟩, Nat.le_trans (Nat.le_of_ble_eq_true rfl) hF, Nat.le_trans (Nat.le_of_ble_eq_true rfl) hL⟩ rfl hls hrest d hcap (fun H1 locs1 hW1 => ?_)
    exact kk H1 locs1 hW1
end LBT
