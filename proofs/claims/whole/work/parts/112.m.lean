abbrev rmX9_takes : Room := { frames := 5, cells := 0, slots := 0, locals := 111 }
def f_X9_takes (x1 : Int32) (σ : lb_Mem) : Option lb_Mem := (f_X9_copies 54 55 σ).bind (fun s8 => (f_X9_yearsOn 55 x1 s8).bind (fun s16 => some s16))
set_option maxRecDepth 20000 in
set_option maxHeartbeats 4000000 in
theorem m_X9_takes (l : Launch) (G : lb_G) (σ : lb_Mem) (x1 : Int32) (qr : lb_Mem) (h : f_X9_takes x1 σ = some qr) : lb_M l yX9_takes cX9_takes 2 none rmX9_takes [.ref (lb_ad G 53), .int x1] G σ (lb_QV G qr) := by
  refine lb_start RX9 (by decide +kernel) rfl (Nat.le_of_ble_eq_true rfl) (fun p e s m below meth c X hW ls hl => ?_)
  have hx := X.1
  have hb := X.2.1
  have hl : lv_has ls 2 [(0, .ref (lb_ad G 53)), (1, .int x1)] := hl
  have h : ((f_X9_copies 54 55 σ).bind (fun s8 => (f_X9_yearsOn 55 x1 s8).bind (fun s16 => some s16))) = some qr := h
  skip
  refine lv_aload_n hx hb dX9_takes_0 rfl (lv_at hl 0 rfl) ?_
  refine rg_X9_9 X hW dX9_takes_1 ?_
  refine lv_aload_n hx hb dX9_takes_4 rfl (lv_at hl 0 rfl) ?_
  refine rg_X9_13 X hW dX9_takes_5 ?_
  obtain ⟨s8, e8, h⟩ := lb_bind h
  refine rc_X9_112 X hW (show lb_ar 54 = 60 + 1 from rfl) (show lb_ar 55 = 60 + 1 from rfl) e8 ⟨⟨rfl, rfl⟩, Nat.le_of_ble_eq_true rfl, Nat.le_of_ble_eq_true rfl⟩ hl.1 (Nat.le_of_ble_eq_true rfl) dX9_takes_8 ⟨Nat.zero_le _, Nat.zero_le _⟩ (fun H locs hW => ?_)
  refine lv_aload_n hx hb dX9_takes_11 rfl (lv_at hl 0 rfl) ?_
  refine rg_X9_13 X hW dX9_takes_12 ?_
  refine lv_iload_n hx hb dX9_takes_15 rfl (lv_at hl 1 rfl) ?_
  obtain ⟨s16, e16, h⟩ := lb_bind h
  refine rc_X9_105 X hW (show lb_ar 55 = 60 + 1 from rfl) e16 ⟨⟨rfl, rfl⟩, Nat.le_of_ble_eq_true rfl, Nat.le_of_ble_eq_true rfl⟩ hl.1 (Nat.le_of_ble_eq_true rfl) dX9_takes_16 ⟨Nat.zero_le _, Nat.zero_le _⟩ (fun H locs hW => ?_)
  obtain rfl := Option.some.inj h
  exact lb_vret X hW dX9_takes_19
theorem rc_X9_133 {p : Program} {l : Launch} {e : Env} {R : Room} {s : State} {m : MethodId} {args : Array Value} {below : List Frame} {meth : Method} {c : Code} {H : Heap} {locs : List Loc} {cells slots : Nat} {Q : State → Prop} {cc : ByteArray} {pc nL : Nat} {ls : Array Slot} {rest : List Value} {G : lb_G} {σ : lb_Mem} {ret : Option FieldType} (X : lb_C G p s m args meth c cc nL RX9 ret) (hW : lb_W G s σ H locs) {x1 : Int32} {qr : lb_Mem} (h : f_X9_takes x1 σ = some qr) (hR : lb_room rmX9_takes R 2) (hls : ls.size = nL) (hrest : (rest.map fun v => v.category).sum ≤ 8) (d : decode cc pc = .ok (.invokevirtual 133, 3)) (hcap : cells ≤ R.cells ∧ slots ≤ R.slots) (kk : ∀ (H1 : Heap) (locs1 : List Loc), lb_W G s qr H1 locs1 → W p l e R s m args below meth c H1 locs1 cells slots Q (F0 m (pc + 3) ls rest)) : W p l e R s m args below meth c H locs cells slots Q (F0 m pc ls (.int x1 :: .ref (lb_ad G 53) :: rest)) :=
  lb_goV hW (lb_runV (As := [.int x1]) X hW (m_X9_takes l G σ x1 qr h) (n := 1) ⟨qw_941, qw_52, qw_944, by decide +kernel⟩ hR qw_943 qw_28 lb_is53 rfl hls hrest d hcap) kk
abbrev rmX9_personThen : Room := { frames := 6, cells := 0, slots := 0, locals := 132 }
def f_X9_personThen_39 (x1 : Int32) (x2 : Int32) (x3 : Int32) (x4 : Int32) (σ : lb_Mem) : Option (Int32 × lb_Mem) := if x4 = 0 then (f_X9_takes x2 σ).bind (fun s53 => if x3 = 0 then lb_chk (lb_ix (f_X9_ofP x1 (1 : Int32)) 61) (some ((s53 55 (f_X9_ofP x1 (1 : Int32)).toNatClampNeg), s53)) else (f_X9_opensIn s53 55 x1).bind (fun q78 => some (q78, s53))) else (f_X9_no x4 σ).bind (fun q47 => some (q47.1, q47.2))
set_option maxRecDepth 20000 in
set_option maxHeartbeats 4000000 in
theorem w_X9_personThen_39 {p : Program} {l : Launch} {e : Env} {s : State} {m : MethodId} {args : Array Value} {below : List Frame} {meth : Method} {c : Code} {G : lb_G} {qr : (Int32 × lb_Mem)} (X : lb_C G p s m args meth c cX9_personThen 5 RX9 (some .int)) : ∀ (x1 : Int32) (x2 : Int32) (x3 : Int32) (x4 : Int32) (σ : lb_Mem) (H : Heap) (locs : List Loc) (ls : Array Slot), f_X9_personThen_39 x1 x2 x3 x4 σ = some qr → lb_W G s σ H locs → lv_has ls 5 [(0, .ref (lb_ad G 53)), (1, .int x1), (2, .int x2), (3, .int x3), (4, .int x4)] → W p l e rmX9_personThen s m args below meth c H locs 0 0 (MQ below (lb_QI G qr.1 qr.2) args s 0 0 (lb_A G)) (F0 m 39 ls []) := by
  have hx := X.1
  have hb := X.2.1
  intro x1 x2 x3 x4 σ H locs ls h hW hl
  have h : (if x4 = 0 then (f_X9_takes x2 σ).bind (fun s53 => if x3 = 0 then lb_chk (lb_ix (f_X9_ofP x1 (1 : Int32)) 61) (some ((s53 55 (f_X9_ofP x1 (1 : Int32)).toNatClampNeg), s53)) else (f_X9_opensIn s53 55 x1).bind (fun q78 => some (q78, s53))) else (f_X9_no x4 σ).bind (fun q47 => some (q47.1, q47.2))) = some qr := h
  refine lv_iload hx hb dX9_personThen_39 (lv_at hl 4 rfl) ?_
  refine lv_if_eq (tgt := 51) hx hb dX9_personThen_41 (by decide) (fun c41 => ?_) (fun c41 => ?_)
  · have h := (if_pos c41).symm.trans h
    refine lv_aload_n hx hb dX9_personThen_51 rfl (lv_at hl 0 rfl) ?_
    refine lv_iload_n hx hb dX9_personThen_52 rfl (lv_at hl 2 rfl) ?_
    obtain ⟨s53, e53, h⟩ := lb_bind h
    refine rc_X9_133 X hW e53 ⟨⟨rfl, rfl⟩, Nat.le_of_ble_eq_true rfl, Nat.le_of_ble_eq_true rfl⟩ hl.1 (Nat.le_of_ble_eq_true rfl) dX9_personThen_53 ⟨Nat.zero_le _, Nat.zero_le _⟩ (fun H locs hW => ?_)
    refine lv_iload_n hx hb dX9_personThen_56 rfl (lv_at hl 3 rfl) ?_
    refine lv_if_ne (tgt := 73) hx hb dX9_personThen_57 (by decide) (fun c57 => ?_) (fun c57 => ?_)
    · have h := (if_neg c57).symm.trans h
      refine lv_aload_n hx hb dX9_personThen_73 rfl (lv_at hl 0 rfl) ?_
      refine rg_X9_13 X hW dX9_personThen_74 ?_
      refine lv_iload_n hx hb dX9_personThen_77 rfl (lv_at hl 1 rfl) ?_
      obtain ⟨q78, e78, h⟩ := lb_bind h
      refine rc_X9_59 X hW (show lb_ar 55 = 60 + 1 from rfl) e78 ⟨⟨rfl, rfl⟩, Nat.le_of_ble_eq_true rfl, Nat.le_of_ble_eq_true rfl⟩ hl.1 (Nat.le_of_ble_eq_true rfl) dX9_personThen_78 ⟨Nat.zero_le _, Nat.zero_le _⟩ (fun H locs hW => ?_)
      obtain rfl := Option.some.inj h
      exact lb_iret X hW dX9_personThen_81
    · have h := (if_pos c57).symm.trans h
      refine lv_aload_n hx hb dX9_personThen_60 rfl (lv_at hl 0 rfl) ?_
      refine rg_X9_13 X hW dX9_personThen_61 ?_
      refine lv_iload_n hx hb dX9_personThen_64 rfl (lv_at hl 1 rfl) ?_
      refine lv_iconst (v := 1) hx hb dX9_personThen_65 rfl ?_
      refine rc_X9_52 X hW x1 (1 : Int32) ⟨⟨rfl, rfl⟩, Nat.le_of_ble_eq_true rfl, Nat.le_of_ble_eq_true rfl⟩ hl.1 (Nat.le_of_ble_eq_true rfl) dX9_personThen_66 ⟨Nat.zero_le _, Nat.zero_le _⟩ (fun H locs hW => ?_)
      obtain ⟨i69, h⟩ := lb_chk_in h
      refine lb_ild X hW (show lb_ar 55 = 60 + 1 from rfl) i69 dX9_personThen_69 ?_
      refine lv_goto (tgt := 81) hx hb dX9_personThen_70 (by decide) ?_
      obtain rfl := Option.some.inj h
      exact lb_iret X hW dX9_personThen_81
  · have h := (if_neg c41).symm.trans h
    refine lv_aload_n hx hb dX9_personThen_44 rfl (lv_at hl 0 rfl) ?_
    refine lv_iload hx hb dX9_personThen_45 (lv_at hl 4 rfl) ?_
    obtain ⟨q47, e47, h⟩ := lb_bind h
    refine rc_X9_35 X hW e47 ⟨⟨rfl, rfl⟩, Nat.le_of_ble_eq_true rfl, Nat.le_of_ble_eq_true rfl⟩ hl.1 (Nat.le_of_ble_eq_true rfl) dX9_personThen_47 ⟨Nat.zero_le _, Nat.zero_le _⟩ (fun H locs hW => ?_)
    obtain rfl := Option.some.inj h
    exact lb_iret X hW dX9_personThen_50
def f_X9_personThen_19 (x1 : Int32) (x2 : Int32) (x3 : Int32) (σ : lb_Mem) (y0 : Int32) : Option (Int32 × lb_Mem) := if y0 = 0 then if (f_X9_isIn x3 (0 : Int32) (1 : Int32)) = 0 then f_X9_personThen_39 x1 x2 x3 (-2 : Int32) σ else f_X9_personThen_39 x1 x2 x3 y0 σ else f_X9_personThen_39 x1 x2 x3 y0 σ
set_option maxRecDepth 20000 in
set_option maxHeartbeats 4000000 in
theorem w_X9_personThen_19 {p : Program} {l : Launch} {e : Env} {s : State} {m : MethodId} {args : Array Value} {below : List Frame} {meth : Method} {c : Code} {G : lb_G} {qr : (Int32 × lb_Mem)} (X : lb_C G p s m args meth c cX9_personThen 5 RX9 (some .int)) : ∀ (x1 : Int32) (x2 : Int32) (x3 : Int32) (σ : lb_Mem) (y0 : Int32) (H : Heap) (locs : List Loc) (ls : Array Slot), f_X9_personThen_19 x1 x2 x3 σ y0 = some qr → lb_W G s σ H locs → lv_has ls 5 [(0, .ref (lb_ad G 53)), (1, .int x1), (2, .int x2), (3, .int x3)] → W p l e rmX9_personThen s m args below meth c H locs 0 0 (MQ below (lb_QI G qr.1 qr.2) args s 0 0 (lb_A G)) (F0 m 19 ls [.int y0]) := by
  have hx := X.1
  have hb := X.2.1
  intro x1 x2 x3 σ y0 H locs ls h hW hl
  have h : (if y0 = 0 then if (f_X9_isIn x3 (0 : Int32) (1 : Int32)) = 0 then f_X9_personThen_39 x1 x2 x3 (-2 : Int32) σ else f_X9_personThen_39 x1 x2 x3 y0 σ else f_X9_personThen_39 x1 x2 x3 y0 σ) = some qr := h
  refine lv_istore (lv' := [(4, .int y0), (0, .ref (lb_ad G 53)), (1, .int x1), (2, .int x2), (3, .int x3)]) hx hb dX9_personThen_19 hl (by decide) rfl (fun ls hl => ?_)
  refine lv_iload hx hb dX9_personThen_21 (lv_at hl 0 rfl) ?_
  refine lv_if_ne (tgt := 39) hx hb dX9_personThen_23 (by decide) (fun c23 => ?_) (fun c23 => ?_)
  · have h := (if_neg c23).symm.trans h
    exact w_X9_personThen_39 X x1 x2 x3 y0 σ _ _ _ h hW (lv_sub hl [1, 2, 3, 4, 0] rfl)
  · have h := (if_pos c23).symm.trans h
    refine lv_iload_n hx hb dX9_personThen_26 rfl (lv_at hl 4 rfl) ?_
    refine lv_iconst (v := 0) hx hb dX9_personThen_27 rfl ?_
    refine lv_iconst (v := 1) hx hb dX9_personThen_28 rfl ?_
    refine rc_X9_41 X hW x3 (0 : Int32) (1 : Int32) ⟨⟨rfl, rfl⟩, Nat.le_of_ble_eq_true rfl, Nat.le_of_ble_eq_true rfl⟩ hl.1 (Nat.le_of_ble_eq_true rfl) dX9_personThen_29 ⟨Nat.zero_le _, Nat.zero_le _⟩ (fun H locs hW => ?_)
    refine lv_if_ne (tgt := 39) hx hb dX9_personThen_32 (by decide) (fun c32 => ?_) (fun c32 => ?_)
    · have h := (if_neg c32).symm.trans h
      exact w_X9_personThen_39 X x1 x2 x3 y0 σ _ _ _ h hW (lv_sub hl [1, 2, 3, 4, 0] rfl)
    · have h := (if_pos c32).symm.trans h
      refine lv_bipush (v := -2) hx hb dX9_personThen_35 rfl ?_
      refine lv_istore (lv' := [(4, .int (-2 : Int32)), (0, .ref (lb_ad G 53)), (1, .int x1), (2, .int x2), (3, .int x3)]) hx hb dX9_personThen_37 hl (by decide) rfl (fun ls hl => ?_)
      exact w_X9_personThen_39 X x1 x2 x3 (-2 : Int32) σ _ _ _ h hW (lv_sub hl [1, 2, 3, 4, 0] rfl)
def f_X9_personThen (x1 : Int32) (x2 : Int32) (x3 : Int32) (σ : lb_Mem) : Option (Int32 × lb_Mem) := if (f_X9_isPerson σ x1) = 0 then f_X9_personThen_19 x1 x2 x3 σ (-1 : Int32) else f_X9_personThen_19 x1 x2 x3 σ (f_X9_wrongBy x2 (0 : Int32) (60 : Int32))
set_option maxRecDepth 20000 in
set_option maxHeartbeats 4000000 in
theorem m_X9_personThen (l : Launch) (G : lb_G) (σ : lb_Mem) (x1 : Int32) (x2 : Int32) (x3 : Int32) (qr : (Int32 × lb_Mem)) (h : f_X9_personThen x1 x2 x3 σ = some qr) : lb_M l yX9_personThen cX9_personThen 5 (some .int) rmX9_personThen [.ref (lb_ad G 53), .int x1, .int x2, .int x3] G σ (lb_QI G qr.1 qr.2) := by
  refine lb_start RX9 (by decide +kernel) rfl (Nat.le_of_ble_eq_true rfl) (fun p e s m below meth c X hW ls hl => ?_)
  have hx := X.1
  have hb := X.2.1
  have hl : lv_has ls 5 [(0, .ref (lb_ad G 53)), (1, .int x1), (2, .int x2), (3, .int x3)] := hl
  have h : (if (f_X9_isPerson σ x1) = 0 then f_X9_personThen_19 x1 x2 x3 σ (-1 : Int32) else f_X9_personThen_19 x1 x2 x3 σ (f_X9_wrongBy x2 (0 : Int32) (60 : Int32))) = some qr := h
  skip
  refine lv_aload_n hx hb dX9_personThen_0 rfl (lv_at hl 0 rfl) ?_
  refine lv_iload_n hx hb dX9_personThen_1 rfl (lv_at hl 1 rfl) ?_
  refine rc_X9_95 X hW x1 ⟨⟨rfl, rfl⟩, Nat.le_of_ble_eq_true rfl, Nat.le_of_ble_eq_true rfl⟩ hl.1 (Nat.le_of_ble_eq_true rfl) dX9_personThen_2 ⟨Nat.zero_le _, Nat.zero_le _⟩ (fun H locs hW => ?_)
  refine lv_if_eq (tgt := 18) hx hb dX9_personThen_5 (by decide) (fun c5 => ?_) (fun c5 => ?_)
  · have h := (if_pos c5).symm.trans h
    refine lv_iconst (v := -1) hx hb dX9_personThen_18 rfl ?_
    exact w_X9_personThen_19 X x1 x2 x3 σ (-1 : Int32) _ _ _ h hW (lv_sub hl [0, 1, 2, 3] rfl)
  · have h := (if_neg c5).symm.trans h
    refine lv_iload_n hx hb dX9_personThen_8 rfl (lv_at hl 2 rfl) ?_
    refine lv_iconst (v := 0) hx hb dX9_personThen_9 rfl ?_
    refine lv_bipush (v := 60) hx hb dX9_personThen_10 rfl ?_
    refine rc_X9_125 X hW x2 (0 : Int32) (60 : Int32) ⟨⟨rfl, rfl⟩, Nat.le_of_ble_eq_true rfl, Nat.le_of_ble_eq_true rfl⟩ hl.1 (Nat.le_of_ble_eq_true rfl) dX9_personThen_12 ⟨Nat.zero_le _, Nat.zero_le _⟩ (fun H locs hW => ?_)
    refine lv_goto (tgt := 19) hx hb dX9_personThen_15 (by decide) ?_
    exact w_X9_personThen_19 X x1 x2 x3 σ (f_X9_wrongBy x2 (0 : Int32) (60 : Int32)) _ _ _ h hW (lv_sub hl [0, 1, 2, 3] rfl)
abbrev rmX9_fullThen : Room := { frames := 6, cells := 0, slots := 0, locals := 132 }
def f_X9_fullThen_19 (x1 : Int32) (x2 : Int32) (σ : lb_Mem) (y0 : Int32) : Option (Int32 × lb_Mem) := if y0 = 0 then (f_X9_takes x2 σ).bind (fun s32 => lb_chk (lb_ix (f_X9_ofT x1 (4 : Int32)) 61) (some ((s32 55 (f_X9_ofT x1 (4 : Int32)).toNatClampNeg), s32))) else (f_X9_no y0 σ).bind (fun q26 => some (q26.1, q26.2))
set_option maxRecDepth 20000 in
set_option maxHeartbeats 4000000 in
theorem w_X9_fullThen_19 {p : Program} {l : Launch} {e : Env} {s : State} {m : MethodId} {args : Array Value} {below : List Frame} {meth : Method} {c : Code} {G : lb_G} {qr : (Int32 × lb_Mem)} (X : lb_C G p s m args meth c cX9_fullThen 4 RX9 (some .int)) : ∀ (x1 : Int32) (x2 : Int32) (σ : lb_Mem) (y0 : Int32) (H : Heap) (locs : List Loc) (ls : Array Slot), f_X9_fullThen_19 x1 x2 σ y0 = some qr → lb_W G s σ H locs → lv_has ls 4 [(0, .ref (lb_ad G 53)), (1, .int x1), (2, .int x2)] → W p l e rmX9_fullThen s m args below meth c H locs 0 0 (MQ below (lb_QI G qr.1 qr.2) args s 0 0 (lb_A G)) (F0 m 19 ls [.int y0]) := by
  have hx := X.1
  have hb := X.2.1
  intro x1 x2 σ y0 H locs ls h hW hl
  have h : (if y0 = 0 then (f_X9_takes x2 σ).bind (fun s32 => lb_chk (lb_ix (f_X9_ofT x1 (4 : Int32)) 61) (some ((s32 55 (f_X9_ofT x1 (4 : Int32)).toNatClampNeg), s32))) else (f_X9_no y0 σ).bind (fun q26 => some (q26.1, q26.2))) = some qr := h
  refine lv_istore_n (lv' := [(3, .int y0), (0, .ref (lb_ad G 53)), (1, .int x1), (2, .int x2)]) hx hb dX9_fullThen_19 rfl hl (by decide) rfl (fun ls hl => ?_)
  refine lv_iload_n hx hb dX9_fullThen_20 rfl (lv_at hl 0 rfl) ?_
  refine lv_if_eq (tgt := 30) hx hb dX9_fullThen_21 (by decide) (fun c21 => ?_) (fun c21 => ?_)
  · have h := (if_pos c21).symm.trans h
    refine lv_aload_n hx hb dX9_fullThen_30 rfl (lv_at hl 1 rfl) ?_
    refine lv_iload_n hx hb dX9_fullThen_31 rfl (lv_at hl 3 rfl) ?_
    obtain ⟨s32, e32, h⟩ := lb_bind h
    refine rc_X9_133 X hW e32 ⟨⟨rfl, rfl⟩, Nat.le_of_ble_eq_true rfl, Nat.le_of_ble_eq_true rfl⟩ hl.1 (Nat.le_of_ble_eq_true rfl) dX9_fullThen_32 ⟨Nat.zero_le _, Nat.zero_le _⟩ (fun H locs hW => ?_)
    refine lv_aload_n hx hb dX9_fullThen_35 rfl (lv_at hl 1 rfl) ?_
    refine rg_X9_13 X hW dX9_fullThen_36 ?_
    refine lv_iload_n hx hb dX9_fullThen_39 rfl (lv_at hl 2 rfl) ?_
    refine lv_iconst (v := 4) hx hb dX9_fullThen_40 rfl ?_
    refine rc_X9_45 X hW x1 (4 : Int32) ⟨⟨rfl, rfl⟩, Nat.le_of_ble_eq_true rfl, Nat.le_of_ble_eq_true rfl⟩ hl.1 (Nat.le_of_ble_eq_true rfl) dX9_fullThen_41 ⟨Nat.zero_le _, Nat.zero_le _⟩ (fun H locs hW => ?_)
    obtain ⟨i44, h⟩ := lb_chk_in h
    refine lb_ild X hW (show lb_ar 55 = 60 + 1 from rfl) i44 dX9_fullThen_44 ?_
    obtain rfl := Option.some.inj h
    exact lb_iret X hW dX9_fullThen_45
  · have h := (if_neg c21).symm.trans h
    refine lv_aload_n hx hb dX9_fullThen_24 rfl (lv_at hl 1 rfl) ?_
    refine lv_iload_n hx hb dX9_fullThen_25 rfl (lv_at hl 0 rfl) ?_
    obtain ⟨q26, e26, h⟩ := lb_bind h
    refine rc_X9_35 X hW e26 ⟨⟨rfl, rfl⟩, Nat.le_of_ble_eq_true rfl, Nat.le_of_ble_eq_true rfl⟩ hl.1 (Nat.le_of_ble_eq_true rfl) dX9_fullThen_26 ⟨Nat.zero_le _, Nat.zero_le _⟩ (fun H locs hW => ?_)
    obtain rfl := Option.some.inj h
    exact lb_iret X hW dX9_fullThen_29
def f_X9_fullThen (x1 : Int32) (x2 : Int32) (σ : lb_Mem) : Option (Int32 × lb_Mem) := if (f_X9_isPot σ x1) = 0 then f_X9_fullThen_19 x1 x2 σ (-1 : Int32) else f_X9_fullThen_19 x1 x2 σ (f_X9_wrongBy x2 (0 : Int32) (60 : Int32))
set_option maxRecDepth 20000 in
set_option maxHeartbeats 4000000 in
theorem m_X9_fullThen (l : Launch) (G : lb_G) (σ : lb_Mem) (x1 : Int32) (x2 : Int32) (qr : (Int32 × lb_Mem)) (h : f_X9_fullThen x1 x2 σ = some qr) : lb_M l yX9_fullThen cX9_fullThen 4 (some .int) rmX9_fullThen [.ref (lb_ad G 53), .int x1, .int x2] G σ (lb_QI G qr.1 qr.2) := by
  refine lb_start RX9 (by decide +kernel) rfl (Nat.le_of_ble_eq_true rfl) (fun p e s m below meth c X hW ls hl => ?_)
  have hx := X.1
  have hb := X.2.1
  have hl : lv_has ls 4 [(0, .ref (lb_ad G 53)), (1, .int x1), (2, .int x2)] := hl
  have h : (if (f_X9_isPot σ x1) = 0 then f_X9_fullThen_19 x1 x2 σ (-1 : Int32) else f_X9_fullThen_19 x1 x2 σ (f_X9_wrongBy x2 (0 : Int32) (60 : Int32))) = some qr := h
  skip
  refine lv_aload_n hx hb dX9_fullThen_0 rfl (lv_at hl 0 rfl) ?_
  refine lv_iload_n hx hb dX9_fullThen_1 rfl (lv_at hl 1 rfl) ?_
  refine rc_X9_102 X hW x1 ⟨⟨rfl, rfl⟩, Nat.le_of_ble_eq_true rfl, Nat.le_of_ble_eq_true rfl⟩ hl.1 (Nat.le_of_ble_eq_true rfl) dX9_fullThen_2 ⟨Nat.zero_le _, Nat.zero_le _⟩ (fun H locs hW => ?_)
  refine lv_if_eq (tgt := 18) hx hb dX9_fullThen_5 (by decide) (fun c5 => ?_) (fun c5 => ?_)
  · have h := (if_pos c5).symm.trans h
    refine lv_iconst (v := -1) hx hb dX9_fullThen_18 rfl ?_
    exact w_X9_fullThen_19 X x1 x2 σ (-1 : Int32) _ _ _ h hW (lv_sub hl [0, 1, 2] rfl)
  · have h := (if_neg c5).symm.trans h
    refine lv_iload_n hx hb dX9_fullThen_8 rfl (lv_at hl 2 rfl) ?_
    refine lv_iconst (v := 0) hx hb dX9_fullThen_9 rfl ?_
    refine lv_bipush (v := 60) hx hb dX9_fullThen_10 rfl ?_
    refine rc_X9_125 X hW x2 (0 : Int32) (60 : Int32) ⟨⟨rfl, rfl⟩, Nat.le_of_ble_eq_true rfl, Nat.le_of_ble_eq_true rfl⟩ hl.1 (Nat.le_of_ble_eq_true rfl) dX9_fullThen_12 ⟨Nat.zero_le _, Nat.zero_le _⟩ (fun H locs hW => ?_)
    refine lv_goto (tgt := 19) hx hb dX9_fullThen_15 (by decide) ?_
    exact w_X9_fullThen_19 X x1 x2 σ (f_X9_wrongBy x2 (0 : Int32) (60 : Int32)) _ _ _ h hW (lv_sub hl [0, 1, 2] rfl)
abbrev rmX9_graceThen : Room := { frames := 6, cells := 0, slots := 0, locals := 132 }
def f_X9_graceThen (x1 : Int32) (σ : lb_Mem) : Option (Int32 × lb_Mem) := lb_let ((f_X9_wrongBy x1 (0 : Int32) (60 : Int32))) (fun v7 : Int32 => if v7 = 0 then (f_X9_takes x1 σ).bind (fun s20 => (f_X9_allGrace s20 55).bind (fun q27 => some (q27, s20))) else (f_X9_no v7 σ).bind (fun q14 => some (q14.1, q14.2)))
set_option maxRecDepth 20000 in
set_option maxHeartbeats 4000000 in
theorem m_X9_graceThen (l : Launch) (G : lb_G) (σ : lb_Mem) (x1 : Int32) (qr : (Int32 × lb_Mem)) (h : f_X9_graceThen x1 σ = some qr) : lb_M l yX9_graceThen cX9_graceThen 3 (some .int) rmX9_graceThen [.ref (lb_ad G 53), .int x1] G σ (lb_QI G qr.1 qr.2) := by
  refine lb_start RX9 (by decide +kernel) rfl (Nat.le_of_ble_eq_true rfl) (fun p e s m below meth c X hW ls hl => ?_)
  have hx := X.1
  have hb := X.2.1
  have hl : lv_has ls 3 [(0, .ref (lb_ad G 53)), (1, .int x1)] := hl
  have h : (lb_let ((f_X9_wrongBy x1 (0 : Int32) (60 : Int32))) (fun v7 : Int32 => if v7 = 0 then (f_X9_takes x1 σ).bind (fun s20 => (f_X9_allGrace s20 55).bind (fun q27 => some (q27, s20))) else (f_X9_no v7 σ).bind (fun q14 => some (q14.1, q14.2)))) = some qr := h
  skip
  refine lv_iload_n hx hb dX9_graceThen_0 rfl (lv_at hl 1 rfl) ?_
  refine lv_iconst (v := 0) hx hb dX9_graceThen_1 rfl ?_
  refine lv_bipush (v := 60) hx hb dX9_graceThen_2 rfl ?_
  refine rc_X9_125 X hW x1 (0 : Int32) (60 : Int32) ⟨⟨rfl, rfl⟩, Nat.le_of_ble_eq_true rfl, Nat.le_of_ble_eq_true rfl⟩ hl.1 (Nat.le_of_ble_eq_true rfl) dX9_graceThen_4 ⟨Nat.zero_le _, Nat.zero_le _⟩ (fun H locs hW => ?_)
  refine lv_topi (fun v7 e7 => ?_)
  have h := lb_letI e7 h
  refine lv_istore_n (lv' := [(2, .int v7), (0, .ref (lb_ad G 53)), (1, .int x1)]) hx hb dX9_graceThen_7 rfl hl (by decide) rfl (fun ls hl => ?_)
  refine lv_iload_n hx hb dX9_graceThen_8 rfl (lv_at hl 0 rfl) ?_
  refine lv_if_eq (tgt := 18) hx hb dX9_graceThen_9 (by decide) (fun c9 => ?_) (fun c9 => ?_)
  · have h := (if_pos c9).symm.trans h
    refine lv_aload_n hx hb dX9_graceThen_18 rfl (lv_at hl 1 rfl) ?_
    refine lv_iload_n hx hb dX9_graceThen_19 rfl (lv_at hl 2 rfl) ?_
    obtain ⟨s20, e20, h⟩ := lb_bind h
    refine rc_X9_133 X hW e20 ⟨⟨rfl, rfl⟩, Nat.le_of_ble_eq_true rfl, Nat.le_of_ble_eq_true rfl⟩ hl.1 (Nat.le_of_ble_eq_true rfl) dX9_graceThen_20 ⟨Nat.zero_le _, Nat.zero_le _⟩ (fun H locs hW => ?_)
    refine lv_aload_n hx hb dX9_graceThen_23 rfl (lv_at hl 1 rfl) ?_
    refine rg_X9_13 X hW dX9_graceThen_24 ?_
    obtain ⟨q27, e27, h⟩ := lb_bind h
    refine rc_X9_129 X hW (show lb_ar 55 = 60 + 1 from rfl) e27 ⟨⟨rfl, rfl⟩, Nat.le_of_ble_eq_true rfl, Nat.le_of_ble_eq_true rfl⟩ hl.1 (Nat.le_of_ble_eq_true rfl) dX9_graceThen_27 ⟨Nat.zero_le _, Nat.zero_le _⟩ (fun H locs hW => ?_)
    obtain rfl := Option.some.inj h
    exact lb_iret X hW dX9_graceThen_30
  · have h := (if_neg c9).symm.trans h
    refine lv_aload_n hx hb dX9_graceThen_12 rfl (lv_at hl 1 rfl) ?_
    refine lv_iload_n hx hb dX9_graceThen_13 rfl (lv_at hl 0 rfl) ?_
    obtain ⟨q14, e14, h⟩ := lb_bind h
    refine rc_X9_35 X hW e14 ⟨⟨rfl, rfl⟩, Nat.le_of_ble_eq_true rfl, Nat.le_of_ble_eq_true rfl⟩ hl.1 (Nat.le_of_ble_eq_true rfl) dX9_graceThen_14 ⟨Nat.zero_le _, Nat.zero_le _⟩ (fun H locs hW => ?_)
    obtain rfl := Option.some.inj h
    exact lb_iret X hW dX9_graceThen_17
abbrev rmX9_whenGone : Room := { frames := 4, cells := 0, slots := 0, locals := 89 }
def f_X9_whenGone_13 : Nat → Int32 → Int32 → lb_Mem → Option (Int32 × lb_Mem)
  | 0, _, _, _ => none
  | n + 1, x1, x2, σ => if (60 : Int32) < x2 then some ((-9 : Int32), σ) else lb_chk (lb_ix x1 61) (if (σ 55 x1.toNatClampNeg) = 0 then some (x2, σ) else (f_X9_year 55 σ).bind (fun s34 => f_X9_whenGone_13 n x1 (x2 + 1) s34))
set_option maxRecDepth 20000 in
set_option maxHeartbeats 4000000 in
theorem w_X9_whenGone_13 {p : Program} {l : Launch} {e : Env} {s : State} {m : MethodId} {args : Array Value} {below : List Frame} {meth : Method} {c : Code} {G : lb_G} {qr : (Int32 × lb_Mem)} (X : lb_C G p s m args meth c cX9_whenGone 3 RX9 (some .int)) : ∀ (n : Nat) (x1 : Int32) (x2 : Int32) (σ : lb_Mem) (H : Heap) (locs : List Loc) (ls : Array Slot), f_X9_whenGone_13 n x1 x2 σ = some qr → lb_W G s σ H locs → lv_has ls 3 [(0, .ref (lb_ad G 53)), (1, .int x1), (2, .int x2)] → W p l e rmX9_whenGone s m args below meth c H locs 0 0 (MQ below (lb_QI G qr.1 qr.2) args s 0 0 (lb_A G)) (F0 m 13 ls []) := by
  have hx := X.1
  have hb := X.2.1
  intro n
  induction n with
  | zero => intro x1 x2 σ H locs ls h hW hl; exact absurd h (fun z => by cases z)
  | succ n ih =>
    intro x1 x2 σ H locs ls h hW hl
    have h : (if (60 : Int32) < x2 then some ((-9 : Int32), σ) else lb_chk (lb_ix x1 61) (if (σ 55 x1.toNatClampNeg) = 0 then some (x2, σ) else (f_X9_year 55 σ).bind (fun s34 => f_X9_whenGone_13 n x1 (x2 + 1) s34))) = some qr := h
    refine lv_iload_n hx hb dX9_whenGone_13 rfl (lv_at hl 2 rfl) ?_
    refine lv_bipush (v := 60) hx hb dX9_whenGone_14 rfl ?_
    refine lv_icmp_gt (tgt := 43) hx hb dX9_whenGone_16 (by decide) (fun c16 => ?_) (fun c16 => ?_)
    · have h := (if_pos c16).symm.trans h
      refine lv_bipush (v := -9) hx hb dX9_whenGone_43 rfl ?_
      obtain rfl := Option.some.inj h
      exact lb_iret X hW dX9_whenGone_45
    · have h := (if_neg c16).symm.trans h
      refine lv_aload_n hx hb dX9_whenGone_19 rfl (lv_at hl 0 rfl) ?_
      refine rg_X9_13 X hW dX9_whenGone_20 ?_
      refine lv_iload_n hx hb dX9_whenGone_23 rfl (lv_at hl 1 rfl) ?_
      obtain ⟨i24, h⟩ := lb_chk_in h
      refine lb_ild X hW (show lb_ar 55 = 60 + 1 from rfl) i24 dX9_whenGone_24 ?_
      refine lv_if_ne (tgt := 30) hx hb dX9_whenGone_25 (by decide) (fun c25 => ?_) (fun c25 => ?_)
      · have h := (if_neg c25).symm.trans h
        refine lv_aload_n hx hb dX9_whenGone_30 rfl (lv_at hl 0 rfl) ?_
        refine rg_X9_13 X hW dX9_whenGone_31 ?_
        obtain ⟨s34, e34, h⟩ := lb_bind h
        refine rc_X9_69 X hW (show lb_ar 55 = 60 + 1 from rfl) e34 ⟨⟨rfl, rfl⟩, Nat.le_of_ble_eq_true rfl, Nat.le_of_ble_eq_true rfl⟩ hl.1 (Nat.le_of_ble_eq_true rfl) dX9_whenGone_34 ⟨Nat.zero_le _, Nat.zero_le _⟩ (fun H locs hW => ?_)
        refine lv_iinc (v := (x2 + 1)) (lv' := [(2, .int (x2 + 1)), (0, .ref (lb_ad G 53)), (1, .int x1)]) hx hb dX9_whenGone_37 hl (k := 2) rfl rfl (by decide) rfl (fun ls hl => ?_)
        refine lv_goto (tgt := 13) hx hb dX9_whenGone_40 (by decide) ?_
        exact ih x1 (x2 + 1) s34 _ _ _ h hW (lv_sub hl [1, 2, 0] rfl)
      · have h := (if_pos c25).symm.trans h
        refine lv_iload_n hx hb dX9_whenGone_28 rfl (lv_at hl 2 rfl) ?_
        obtain rfl := Option.some.inj h
        exact lb_iret X hW dX9_whenGone_29
def f_X9_whenGone (x1 : Int32) (σ : lb_Mem) : Option (Int32 × lb_Mem) := (f_X9_copies 54 55 σ).bind (fun s8 => f_X9_whenGone_13 lb_N x1 (0 : Int32) s8)
set_option maxRecDepth 20000 in
set_option maxHeartbeats 4000000 in
theorem m_X9_whenGone (l : Launch) (G : lb_G) (σ : lb_Mem) (x1 : Int32) (qr : (Int32 × lb_Mem)) (h : f_X9_whenGone x1 σ = some qr) : lb_M l yX9_whenGone cX9_whenGone 3 (some .int) rmX9_whenGone [.ref (lb_ad G 53), .int x1] G σ (lb_QI G qr.1 qr.2) := by
  refine lb_start RX9 (by decide +kernel) rfl (Nat.le_of_ble_eq_true rfl) (fun p e s m below meth c X hW ls hl => ?_)
  have hx := X.1
  have hb := X.2.1
  have hl : lv_has ls 3 [(0, .ref (lb_ad G 53)), (1, .int x1)] := hl
  have h : ((f_X9_copies 54 55 σ).bind (fun s8 => f_X9_whenGone_13 lb_N x1 (0 : Int32) s8)) = some qr := h
  skip
  refine lv_aload_n hx hb dX9_whenGone_0 rfl (lv_at hl 0 rfl) ?_
  refine rg_X9_9 X hW dX9_whenGone_1 ?_
  refine lv_aload_n hx hb dX9_whenGone_4 rfl (lv_at hl 0 rfl) ?_
  refine rg_X9_13 X hW dX9_whenGone_5 ?_
  obtain ⟨s8, e8, h⟩ := lb_bind h
  refine rc_X9_112 X hW (show lb_ar 54 = 60 + 1 from rfl) (show lb_ar 55 = 60 + 1 from rfl) e8 ⟨⟨rfl, rfl⟩, Nat.le_of_ble_eq_true rfl, Nat.le_of_ble_eq_true rfl⟩ hl.1 (Nat.le_of_ble_eq_true rfl) dX9_whenGone_8 ⟨Nat.zero_le _, Nat.zero_le _⟩ (fun H locs hW => ?_)
  refine lv_iconst (v := 0) hx hb dX9_whenGone_11 rfl ?_
  refine lv_istore_n (lv' := [(2, .int (0 : Int32)), (0, .ref (lb_ad G 53)), (1, .int x1)]) hx hb dX9_whenGone_12 rfl hl (by decide) rfl (fun ls hl => ?_)
  exact w_X9_whenGone_13 X lb_N x1 (0 : Int32) s8 _ _ _ h hW (lv_sub hl [1, 2, 0] rfl)
theorem rc_X9_137 {p : Program} {l : Launch} {e : Env} {R : Room} {s : State} {m : MethodId} {args : Array Value} {below : List Frame} {meth : Method} {c : Code} {H : Heap} {locs : List Loc} {cells slots : Nat} {Q : State → Prop} {cc : ByteArray} {pc nL : Nat} {ls : Array Slot} {rest : List Value} {G : lb_G} {σ : lb_Mem} {ret : Option FieldType} (X : lb_C G p s m args meth c cc nL RX9 ret) (hW : lb_W G s σ H locs) {x1 : Int32} {qr : (Int32 × lb_Mem)} (h : f_X9_whenGone x1 σ = some qr) (hR : lb_room rmX9_whenGone R 3) (hls : ls.size = nL) (hrest : (rest.map fun v => v.category).sum ≤ 8) (d : decode cc pc = .ok (.invokevirtual 137, 3)) (hcap : cells ≤ R.cells ∧ slots ≤ R.slots) (kk : ∀ (H1 : Heap) (locs1 : List Loc), lb_W G s qr.2 H1 locs1 → W p l e R s m args below meth c H1 locs1 cells slots Q (F0 m (pc + 3) ls (.int qr.1 :: rest))) : W p l e R s m args below meth c H locs cells slots Q (F0 m pc ls (.int x1 :: .ref (lb_ad G 53) :: rest)) :=
  lb_goI hW (lb_runV (As := [.int x1]) X hW (m_X9_whenGone l G σ x1 qr h) (n := 1) ⟨qw_961, qw_52, qw_964, by decide +kernel⟩ hR qw_963 qw_30 lb_is53 rfl hls hrest d hcap) kk
abbrev rmX9_firstGone : Room := { frames := 5, cells := 0, slots := 0, locals := 111 }
def f_X9_firstGone_8 : Nat → Int32 → Int32 → Int32 → lb_Mem → Option (Int32 × lb_Mem)
  | 0, _, _, _, _ => none
  | n + 1, x1, x2, x3, σ => if (σ 54 (1 : Int32).toNatClampNeg) ≤ x3 then some (x1, σ) else (f_X9_whenGone (f_X9_ofP x3 (1 : Int32)) σ).bind (fun q24 => if q24.1 < 0 then f_X9_firstGone_8 n x1 x2 (x3 + 1) q24.2 else if q24.1 < x2 then f_X9_firstGone_8 n x3 q24.1 (x3 + 1) q24.2 else f_X9_firstGone_8 n x1 x2 (x3 + 1) q24.2)
set_option maxRecDepth 20000 in
set_option maxHeartbeats 4000000 in
theorem w_X9_firstGone_8 {p : Program} {l : Launch} {e : Env} {s : State} {m : MethodId} {args : Array Value} {below : List Frame} {meth : Method} {c : Code} {G : lb_G} {qr : (Int32 × lb_Mem)} (X : lb_C G p s m args meth c cX9_firstGone 5 RX9 (some .int)) : ∀ (n : Nat) (x1 : Int32) (x2 : Int32) (x3 : Int32) (σ : lb_Mem) (H : Heap) (locs : List Loc) (ls : Array Slot), f_X9_firstGone_8 n x1 x2 x3 σ = some qr → lb_W G s σ H locs → lv_has ls 5 [(0, .ref (lb_ad G 53)), (1, .int x1), (2, .int x2), (3, .int x3)] → W p l e rmX9_firstGone s m args below meth c H locs 0 0 (MQ below (lb_QI G qr.1 qr.2) args s 0 0 (lb_A G)) (F0 m 8 ls []) := by
  have hx := X.1
  have hb := X.2.1
  intro n
  induction n with
  | zero => intro x1 x2 x3 σ H locs ls h hW hl; exact absurd h (fun z => by cases z)
  | succ n ih =>
    intro x1 x2 x3 σ H locs ls h hW hl
    have h : (if (σ 54 (1 : Int32).toNatClampNeg) ≤ x3 then some (x1, σ) else (f_X9_whenGone (f_X9_ofP x3 (1 : Int32)) σ).bind (fun q24 => if q24.1 < 0 then f_X9_firstGone_8 n x1 x2 (x3 + 1) q24.2 else if q24.1 < x2 then f_X9_firstGone_8 n x3 q24.1 (x3 + 1) q24.2 else f_X9_firstGone_8 n x1 x2 (x3 + 1) q24.2)) = some qr := h
    refine lv_iload_n hx hb dX9_firstGone_8 rfl (lv_at hl 3 rfl) ?_
    refine lv_aload_n hx hb dX9_firstGone_9 rfl (lv_at hl 0 rfl) ?_
    refine rg_X9_9 X hW dX9_firstGone_10 ?_
    refine lv_iconst (v := 1) hx hb dX9_firstGone_13 rfl ?_
    refine lb_ild X hW (show lb_ar 54 = 60 + 1 from rfl) (lb_inC rfl) dX9_firstGone_14 ?_
    refine lv_icmp_ge (tgt := 54) hx hb dX9_firstGone_15 (by decide) (fun c15 => ?_) (fun c15 => ?_)
    · have h := (if_pos c15).symm.trans h
      refine lv_iload_n hx hb dX9_firstGone_54 rfl (lv_at hl 1 rfl) ?_
      obtain rfl := Option.some.inj h
      exact lb_iret X hW dX9_firstGone_55
    · have h := (if_neg c15).symm.trans h
      refine lv_aload_n hx hb dX9_firstGone_18 rfl (lv_at hl 0 rfl) ?_
      refine lv_iload_n hx hb dX9_firstGone_19 rfl (lv_at hl 3 rfl) ?_
      refine lv_iconst (v := 1) hx hb dX9_firstGone_20 rfl ?_
      refine rc_X9_52 X hW x3 (1 : Int32) ⟨⟨rfl, rfl⟩, Nat.le_of_ble_eq_true rfl, Nat.le_of_ble_eq_true rfl⟩ hl.1 (Nat.le_of_ble_eq_true rfl) dX9_firstGone_21 ⟨Nat.zero_le _, Nat.zero_le _⟩ (fun H locs hW => ?_)
      obtain ⟨q24, e24, h⟩ := lb_bind h
      refine rc_X9_137 X hW e24 ⟨⟨rfl, rfl⟩, Nat.le_of_ble_eq_true rfl, Nat.le_of_ble_eq_true rfl⟩ hl.1 (Nat.le_of_ble_eq_true rfl) dX9_firstGone_24 ⟨Nat.zero_le _, Nat.zero_le _⟩ (fun H locs hW => ?_)
      refine lv_istore (lv' := [(4, .int q24.1), (0, .ref (lb_ad G 53)), (1, .int x1), (2, .int x2), (3, .int x3)]) hx hb dX9_firstGone_27 hl (by decide) rfl (fun ls hl => ?_)
      refine lv_iload hx hb dX9_firstGone_29 (lv_at hl 0 rfl) ?_
      refine lv_if_lt (tgt := 48) hx hb dX9_firstGone_31 (by decide) (fun c31 => ?_) (fun c31 => ?_)
      · have h := (if_pos c31).symm.trans h
        refine lv_iinc (v := (x3 + 1)) (lv' := [(3, .int (x3 + 1)), (4, .int q24.1), (0, .ref (lb_ad G 53)), (1, .int x1), (2, .int x2)]) hx hb dX9_firstGone_48 hl (k := 4) rfl rfl (by decide) rfl (fun ls hl => ?_)
        refine lv_goto (tgt := 8) hx hb dX9_firstGone_51 (by decide) ?_
        exact ih x1 x2 (x3 + 1) q24.2 _ _ _ h hW (lv_sub hl [2, 3, 4, 0] rfl)
      · have h := (if_neg c31).symm.trans h
        refine lv_iload hx hb dX9_firstGone_34 (lv_at hl 0 rfl) ?_
        refine lv_iload_n hx hb dX9_firstGone_36 rfl (lv_at hl 3 rfl) ?_
        refine lv_icmp_lt (tgt := 43) hx hb dX9_firstGone_37 (by decide) (fun c37 => ?_) (fun c37 => ?_)
        · have h := (if_pos c37).symm.trans h
          refine lv_iload_n hx hb dX9_firstGone_43 rfl (lv_at hl 4 rfl) ?_
          refine lv_istore_n (lv' := [(1, .int x3), (4, .int q24.1), (0, .ref (lb_ad G 53)), (2, .int x2), (3, .int x3)]) hx hb dX9_firstGone_44 rfl hl (by decide) rfl (fun ls hl => ?_)
          refine lv_iload hx hb dX9_firstGone_45 (lv_at hl 1 rfl) ?_
          refine lv_istore_n (lv' := [(2, .int q24.1), (1, .int x3), (4, .int q24.1), (0, .ref (lb_ad G 53)), (3, .int x3)]) hx hb dX9_firstGone_47 rfl hl (by decide) rfl (fun ls hl => ?_)
          refine lv_iinc (v := (x3 + 1)) (lv' := [(3, .int (x3 + 1)), (2, .int q24.1), (1, .int x3), (4, .int q24.1), (0, .ref (lb_ad G 53))]) hx hb dX9_firstGone_48 hl (k := 4) rfl rfl (by decide) rfl (fun ls hl => ?_)
          refine lv_goto (tgt := 8) hx hb dX9_firstGone_51 (by decide) ?_
          exact ih x3 q24.1 (x3 + 1) q24.2 _ _ _ h hW (lv_sub hl [4, 2, 1, 0] rfl)
        · have h := (if_neg c37).symm.trans h
          refine lv_goto (tgt := 48) hx hb dX9_firstGone_40 (by decide) ?_
          refine lv_iinc (v := (x3 + 1)) (lv' := [(3, .int (x3 + 1)), (4, .int q24.1), (0, .ref (lb_ad G 53)), (1, .int x1), (2, .int x2)]) hx hb dX9_firstGone_48 hl (k := 4) rfl rfl (by decide) rfl (fun ls hl => ?_)
          refine lv_goto (tgt := 8) hx hb dX9_firstGone_51 (by decide) ?_
          exact ih x1 x2 (x3 + 1) q24.2 _ _ _ h hW (lv_sub hl [2, 3, 4, 0] rfl)
def f_X9_firstGone (σ : lb_Mem) : Option (Int32 × lb_Mem) := f_X9_firstGone_8 lb_N (-9 : Int32) (1000000000 : Int32) (0 : Int32) σ
set_option maxRecDepth 20000 in
set_option maxHeartbeats 4000000 in
theorem m_X9_firstGone (l : Launch) (G : lb_G) (σ : lb_Mem) (qr : (Int32 × lb_Mem)) (h : f_X9_firstGone σ = some qr) : lb_M l yX9_firstGone cX9_firstGone 5 (some .int) rmX9_firstGone [.ref (lb_ad G 53)] G σ (lb_QI G qr.1 qr.2) := by
  refine lb_start RX9 (by decide +kernel) rfl (Nat.le_of_ble_eq_true rfl) (fun p e s m below meth c X hW ls hl => ?_)
  have hx := X.1
  have hb := X.2.1
  have hl : lv_has ls 5 [(0, .ref (lb_ad G 53))] := hl
  have h : (f_X9_firstGone_8 lb_N (-9 : Int32) (1000000000 : Int32) (0 : Int32) σ) = some qr := h
  skip
  refine lv_bipush (v := -9) hx hb dX9_firstGone_0 rfl ?_
  refine lv_istore_n (lv' := [(1, .int (-9 : Int32)), (0, .ref (lb_ad G 53))]) hx hb dX9_firstGone_2 rfl hl (by decide) rfl (fun ls hl => ?_)
  refine lv_ldc (v := 1000000000) hx hb X.2.2.2.1 (X.2.2.2.2.1 _ qw_906) dX9_firstGone_3 ?_
  refine lv_istore_n (lv' := [(2, .int (1000000000 : Int32)), (1, .int (-9 : Int32)), (0, .ref (lb_ad G 53))]) hx hb dX9_firstGone_5 rfl hl (by decide) rfl (fun ls hl => ?_)
  refine lv_iconst (v := 0) hx hb dX9_firstGone_6 rfl ?_
  refine lv_istore_n (lv' := [(3, .int (0 : Int32)), (2, .int (1000000000 : Int32)), (1, .int (-9 : Int32)), (0, .ref (lb_ad G 53))]) hx hb dX9_firstGone_7 rfl hl (by decide) rfl (fun ls hl => ?_)
  exact w_X9_firstGone_8 X lb_N (-9 : Int32) (1000000000 : Int32) (0 : Int32) σ _ _ _ h hW (lv_sub hl [3, 2, 1, 0] rfl)
theorem rc_X9_140 {p : Program} {l : Launch} {e : Env} {R : Room} {s : State} {m : MethodId} {args : Array Value} {below : List Frame} {meth : Method} {c : Code} {H : Heap} {locs : List Loc} {cells slots : Nat} {Q : State → Prop} {cc : ByteArray} {pc nL : Nat} {ls : Array Slot} {rest : List Value} {G : lb_G} {σ : lb_Mem} {ret : Option FieldType} (X : lb_C G p s m args meth c cc nL RX9 ret) (hW : lb_W G s σ H locs) {qr : (Int32 × lb_Mem)} (h : f_X9_firstGone σ = some qr) (hR : lb_room rmX9_firstGone R 5) (hls : ls.size = nL) (hrest : (rest.map fun v => v.category).sum ≤ 8) (d : decode cc pc = .ok (.invokevirtual 140, 3)) (hcap : cells ≤ R.cells ∧ slots ≤ R.slots) (kk : ∀ (H1 : Heap) (locs1 : List Loc), lb_W G s qr.2 H1 locs1 → W p l e R s m args below meth c H1 locs1 cells slots Q (F0 m (pc + 3) ls (.int qr.1 :: rest))) : W p l e R s m args below meth c H locs cells slots Q (F0 m pc ls (.ref (lb_ad G 53) :: rest)) :=
  lb_goI hW (lb_runV (As := []) X hW (m_X9_firstGone l G σ qr h) (n := 0) ⟨qw_957, qw_52, qw_960, by decide +kernel⟩ hR qw_959 qw_29 lb_is53 rfl hls hrest d hcap) kk
abbrev rmX9_graceless : Room := { frames := 6, cells := 0, slots := 0, locals := 135 }
def f_X9_graceless (x1 : Int32) (σ : lb_Mem) : Option (Int32 × lb_Mem) := if x1 = (-1 : Int32) then (f_X9_firstGone σ).bind (fun q6 => some (q6.1, q6.2)) else if (f_X9_isPerson σ x1) = 0 then (f_X9_no (-1 : Int32) σ).bind (fun q34 => some (q34.1, q34.2)) else (f_X9_whenGone (f_X9_ofP x1 (1 : Int32)) σ).bind (fun q26 => some (q26.1, q26.2))
set_option maxRecDepth 20000 in
set_option maxHeartbeats 4000000 in
theorem m_X9_graceless (l : Launch) (G : lb_G) (σ : lb_Mem) (x1 : Int32) (qr : (Int32 × lb_Mem)) (h : f_X9_graceless x1 σ = some qr) : lb_M l yX9_graceless cX9_graceless 2 (some .int) rmX9_graceless [.ref (lb_ad G 53), .int x1] G σ (lb_QI G qr.1 qr.2) := by
  refine lb_start RX9 (by decide +kernel) rfl (Nat.le_of_ble_eq_true rfl) (fun p e s m below meth c X hW ls hl => ?_)
  have hx := X.1
  have hb := X.2.1
  have hl : lv_has ls 2 [(0, .ref (lb_ad G 53)), (1, .int x1)] := hl
  have h : (if x1 = (-1 : Int32) then (f_X9_firstGone σ).bind (fun q6 => some (q6.1, q6.2)) else if (f_X9_isPerson σ x1) = 0 then (f_X9_no (-1 : Int32) σ).bind (fun q34 => some (q34.1, q34.2)) else (f_X9_whenGone (f_X9_ofP x1 (1 : Int32)) σ).bind (fun q26 => some (q26.1, q26.2))) = some qr := h
  skip
  refine lv_iload_n hx hb dX9_graceless_0 rfl (lv_at hl 1 rfl) ?_
  refine lv_iconst (v := -1) hx hb dX9_graceless_1 rfl ?_
  refine lv_icmp_ne (tgt := 12) hx hb dX9_graceless_2 (by decide) (fun c2 => ?_) (fun c2 => ?_)
  · have h := (if_neg c2).symm.trans h
    refine lv_aload_n hx hb dX9_graceless_12 rfl (lv_at hl 0 rfl) ?_
    refine lv_iload_n hx hb dX9_graceless_13 rfl (lv_at hl 1 rfl) ?_
    refine rc_X9_95 X hW x1 ⟨⟨rfl, rfl⟩, Nat.le_of_ble_eq_true rfl, Nat.le_of_ble_eq_true rfl⟩ hl.1 (Nat.le_of_ble_eq_true rfl) dX9_graceless_14 ⟨Nat.zero_le _, Nat.zero_le _⟩ (fun H locs hW => ?_)
    refine lv_if_eq (tgt := 32) hx hb dX9_graceless_17 (by decide) (fun c17 => ?_) (fun c17 => ?_)
    · have h := (if_pos c17).symm.trans h
      refine lv_aload_n hx hb dX9_graceless_32 rfl (lv_at hl 0 rfl) ?_
      refine lv_iconst (v := -1) hx hb dX9_graceless_33 rfl ?_
      obtain ⟨q34, e34, h⟩ := lb_bind h
      refine rc_X9_35 X hW e34 ⟨⟨rfl, rfl⟩, Nat.le_of_ble_eq_true rfl, Nat.le_of_ble_eq_true rfl⟩ hl.1 (Nat.le_of_ble_eq_true rfl) dX9_graceless_34 ⟨Nat.zero_le _, Nat.zero_le _⟩ (fun H locs hW => ?_)
      obtain rfl := Option.some.inj h
      exact lb_iret X hW dX9_graceless_37
    · have h := (if_neg c17).symm.trans h
      refine lv_aload_n hx hb dX9_graceless_20 rfl (lv_at hl 0 rfl) ?_
      refine lv_iload_n hx hb dX9_graceless_21 rfl (lv_at hl 1 rfl) ?_
      refine lv_iconst (v := 1) hx hb dX9_graceless_22 rfl ?_
      refine rc_X9_52 X hW x1 (1 : Int32) ⟨⟨rfl, rfl⟩, Nat.le_of_ble_eq_true rfl, Nat.le_of_ble_eq_true rfl⟩ hl.1 (Nat.le_of_ble_eq_true rfl) dX9_graceless_23 ⟨Nat.zero_le _, Nat.zero_le _⟩ (fun H locs hW => ?_)
      obtain ⟨q26, e26, h⟩ := lb_bind h
      refine rc_X9_137 X hW e26 ⟨⟨rfl, rfl⟩, Nat.le_of_ble_eq_true rfl, Nat.le_of_ble_eq_true rfl⟩ hl.1 (Nat.le_of_ble_eq_true rfl) dX9_graceless_26 ⟨Nat.zero_le _, Nat.zero_le _⟩ (fun H locs hW => ?_)
      refine lv_goto (tgt := 37) hx hb dX9_graceless_29 (by decide) ?_
      obtain rfl := Option.some.inj h
      exact lb_iret X hW dX9_graceless_37
  · have h := (if_pos c2).symm.trans h
    refine lv_aload_n hx hb dX9_graceless_5 rfl (lv_at hl 0 rfl) ?_
    obtain ⟨q6, e6, h⟩ := lb_bind h
    refine rc_X9_140 X hW e6 ⟨⟨rfl, rfl⟩, Nat.le_of_ble_eq_true rfl, Nat.le_of_ble_eq_true rfl⟩ hl.1 (Nat.le_of_ble_eq_true rfl) dX9_graceless_6 ⟨Nat.zero_le _, Nat.zero_le _⟩ (fun H locs hW => ?_)
    refine lv_goto (tgt := 37) hx hb dX9_graceless_9 (by decide) ?_
    obtain rfl := Option.some.inj h
    exact lb_iret X hW dX9_graceless_37
abbrev rmX9_empties : Room := { frames := 5, cells := 0, slots := 0, locals := 111 }
def f_X9_empties (x1 : Int32) (σ : lb_Mem) : Option (Int32 × lb_Mem) := if (f_X9_isPot σ x1) = 0 then (f_X9_no (-1 : Int32) σ).bind (fun q22 => some (q22.1, q22.2)) else (f_X9_whenGone (f_X9_ofT x1 (4 : Int32)) σ).bind (fun q14 => some (q14.1, q14.2))
set_option maxRecDepth 20000 in
set_option maxHeartbeats 4000000 in
theorem m_X9_empties (l : Launch) (G : lb_G) (σ : lb_Mem) (x1 : Int32) (qr : (Int32 × lb_Mem)) (h : f_X9_empties x1 σ = some qr) : lb_M l yX9_empties cX9_empties 2 (some .int) rmX9_empties [.ref (lb_ad G 53), .int x1] G σ (lb_QI G qr.1 qr.2) := by
  refine lb_start RX9 (by decide +kernel) rfl (Nat.le_of_ble_eq_true rfl) (fun p e s m below meth c X hW ls hl => ?_)
  have hx := X.1
  have hb := X.2.1
  have hl : lv_has ls 2 [(0, .ref (lb_ad G 53)), (1, .int x1)] := hl
  have h : (if (f_X9_isPot σ x1) = 0 then (f_X9_no (-1 : Int32) σ).bind (fun q22 => some (q22.1, q22.2)) else (f_X9_whenGone (f_X9_ofT x1 (4 : Int32)) σ).bind (fun q14 => some (q14.1, q14.2))) = some qr := h
  skip
  refine lv_aload_n hx hb dX9_empties_0 rfl (lv_at hl 0 rfl) ?_
  refine lv_iload_n hx hb dX9_empties_1 rfl (lv_at hl 1 rfl) ?_
  refine rc_X9_102 X hW x1 ⟨⟨rfl, rfl⟩, Nat.le_of_ble_eq_true rfl, Nat.le_of_ble_eq_true rfl⟩ hl.1 (Nat.le_of_ble_eq_true rfl) dX9_empties_2 ⟨Nat.zero_le _, Nat.zero_le _⟩ (fun H locs hW => ?_)
  refine lv_if_eq (tgt := 20) hx hb dX9_empties_5 (by decide) (fun c5 => ?_) (fun c5 => ?_)
  · have h := (if_pos c5).symm.trans h
    refine lv_aload_n hx hb dX9_empties_20 rfl (lv_at hl 0 rfl) ?_
    refine lv_iconst (v := -1) hx hb dX9_empties_21 rfl ?_
    obtain ⟨q22, e22, h⟩ := lb_bind h
    refine rc_X9_35 X hW e22 ⟨⟨rfl, rfl⟩, Nat.le_of_ble_eq_true rfl, Nat.le_of_ble_eq_true rfl⟩ hl.1 (Nat.le_of_ble_eq_true rfl) dX9_empties_22 ⟨Nat.zero_le _, Nat.zero_le _⟩ (fun H locs hW => ?_)
    obtain rfl := Option.some.inj h
    exact lb_iret X hW dX9_empties_25
  · have h := (if_neg c5).symm.trans h
    refine lv_aload_n hx hb dX9_empties_8 rfl (lv_at hl 0 rfl) ?_
    refine lv_iload_n hx hb dX9_empties_9 rfl (lv_at hl 1 rfl) ?_
    refine lv_iconst (v := 4) hx hb dX9_empties_10 rfl ?_
    refine rc_X9_45 X hW x1 (4 : Int32) ⟨⟨rfl, rfl⟩, Nat.le_of_ble_eq_true rfl, Nat.le_of_ble_eq_true rfl⟩ hl.1 (Nat.le_of_ble_eq_true rfl) dX9_empties_11 ⟨Nat.zero_le _, Nat.zero_le _⟩ (fun H locs hW => ?_)
    obtain ⟨q14, e14, h⟩ := lb_bind h
    refine rc_X9_137 X hW e14 ⟨⟨rfl, rfl⟩, Nat.le_of_ble_eq_true rfl, Nat.le_of_ble_eq_true rfl⟩ hl.1 (Nat.le_of_ble_eq_true rfl) dX9_empties_14 ⟨Nat.zero_le _, Nat.zero_le _⟩ (fun H locs hW => ?_)
    refine lv_goto (tgt := 25) hx hb dX9_empties_17 (by decide) ?_
    obtain rfl := Option.some.inj h
    exact lb_iret X hW dX9_empties_25
abbrev rmX9_label : Room := { frames := 5, cells := 0, slots := 0, locals := 111 }
def f_X9_label_39 : Nat → Int32 → Int32 → Int32 → Int32 → Int32 → lb_Mem → Option (Int32 × lb_Mem)
  | 0, _, _, _, _, _, _ => none
  | n + 1, x1, x2, x4, x5, x6, σ => if (6 : Int32) < x6 then some (x4, σ) else (f_X9_copies 54 55 σ).bind (fun s54 => lb_chk (lb_ix (f_X9_ofT x1 (3 : Int32)) 61) (lb_let (lb_sto s54 55 (f_X9_ofT x1 (3 : Int32)).toNatClampNeg x6) (fun s68 : lb_Mem => (f_X9_yearsOn 55 x2 s68).bind (fun s74 => lb_chk (lb_ix (f_X9_ofT x1 (5 : Int32)) 61) (lb_chk (lb_ix (f_X9_ofP (s74 54 (f_X9_ofT x1 (5 : Int32)).toNatClampNeg) (1 : Int32)) 61) (lb_let ((s74 55 (f_X9_ofP (s74 54 (f_X9_ofT x1 (5 : Int32)).toNatClampNeg) (1 : Int32)).toNatClampNeg)) (fun v96 : Int32 => if x5 < v96 then f_X9_label_39 n x1 x2 x6 v96 (x6 + 1) s74 else f_X9_label_39 n x1 x2 x4 x5 (x6 + 1) s74)))))))
set_option maxRecDepth 20000 in
set_option maxHeartbeats 4000000 in
theorem w_X9_label_39 {p : Program} {l : Launch} {e : Env} {s : State} {m : MethodId} {args : Array Value} {below : List Frame} {meth : Method} {c : Code} {G : lb_G} {qr : (Int32 × lb_Mem)} (X : lb_C G p s m args meth c cX9_label 8 RX9 (some .int)) : ∀ (n : Nat) (x1 : Int32) (x2 : Int32) (x4 : Int32) (x5 : Int32) (x6 : Int32) (σ : lb_Mem) (H : Heap) (locs : List Loc) (ls : Array Slot), f_X9_label_39 n x1 x2 x4 x5 x6 σ = some qr → lb_W G s σ H locs → lv_has ls 8 [(0, .ref (lb_ad G 53)), (1, .int x1), (2, .int x2), (4, .int x4), (5, .int x5), (6, .int x6)] → W p l e rmX9_label s m args below meth c H locs 0 0 (MQ below (lb_QI G qr.1 qr.2) args s 0 0 (lb_A G)) (F0 m 39 ls []) := by
  have hx := X.1
  have hb := X.2.1
  intro n
  induction n with
  | zero => intro x1 x2 x4 x5 x6 σ H locs ls h hW hl; exact absurd h (fun z => by cases z)
  | succ n ih =>
    intro x1 x2 x4 x5 x6 σ H locs ls h hW hl
    have h : (if (6 : Int32) < x6 then some (x4, σ) else (f_X9_copies 54 55 σ).bind (fun s54 => lb_chk (lb_ix (f_X9_ofT x1 (3 : Int32)) 61) (lb_let (lb_sto s54 55 (f_X9_ofT x1 (3 : Int32)).toNatClampNeg x6) (fun s68 : lb_Mem => (f_X9_yearsOn 55 x2 s68).bind (fun s74 => lb_chk (lb_ix (f_X9_ofT x1 (5 : Int32)) 61) (lb_chk (lb_ix (f_X9_ofP (s74 54 (f_X9_ofT x1 (5 : Int32)).toNatClampNeg) (1 : Int32)) 61) (lb_let ((s74 55 (f_X9_ofP (s74 54 (f_X9_ofT x1 (5 : Int32)).toNatClampNeg) (1 : Int32)).toNatClampNeg)) (fun v96 : Int32 => if x5 < v96 then f_X9_label_39 n x1 x2 x6 v96 (x6 + 1) s74 else f_X9_label_39 n x1 x2 x4 x5 (x6 + 1) s74)))))))) = some qr := h
    refine lv_iload hx hb dX9_label_39 (lv_at hl 5 rfl) ?_
    refine lv_bipush (v := 6) hx hb dX9_label_41 rfl ?_
    refine lv_icmp_gt (tgt := 122) hx hb dX9_label_43 (by decide) (fun c43 => ?_) (fun c43 => ?_)
    · have h := (if_pos c43).symm.trans h
      refine lv_iload hx hb dX9_label_122 (lv_at hl 3 rfl) ?_
      obtain rfl := Option.some.inj h
      exact lb_iret X hW dX9_label_124
    · have h := (if_neg c43).symm.trans h
      refine lv_aload_n hx hb dX9_label_46 rfl (lv_at hl 0 rfl) ?_
      refine rg_X9_9 X hW dX9_label_47 ?_
      refine lv_aload_n hx hb dX9_label_50 rfl (lv_at hl 0 rfl) ?_
      refine rg_X9_13 X hW dX9_label_51 ?_
      obtain ⟨s54, e54, h⟩ := lb_bind h
      refine rc_X9_112 X hW (show lb_ar 54 = 60 + 1 from rfl) (show lb_ar 55 = 60 + 1 from rfl) e54 ⟨⟨rfl, rfl⟩, Nat.le_of_ble_eq_true rfl, Nat.le_of_ble_eq_true rfl⟩ hl.1 (Nat.le_of_ble_eq_true rfl) dX9_label_54 ⟨Nat.zero_le _, Nat.zero_le _⟩ (fun H locs hW => ?_)
      refine lv_aload_n hx hb dX9_label_57 rfl (lv_at hl 0 rfl) ?_
      refine rg_X9_13 X hW dX9_label_58 ?_
      refine lv_iload_n hx hb dX9_label_61 rfl (lv_at hl 1 rfl) ?_
      refine lv_iconst (v := 3) hx hb dX9_label_62 rfl ?_
      refine rc_X9_45 X hW x1 (3 : Int32) ⟨⟨rfl, rfl⟩, Nat.le_of_ble_eq_true rfl, Nat.le_of_ble_eq_true rfl⟩ hl.1 (Nat.le_of_ble_eq_true rfl) dX9_label_63 ⟨Nat.zero_le _, Nat.zero_le _⟩ (fun H locs hW => ?_)
      refine lv_iload hx hb dX9_label_66 (lv_at hl 5 rfl) ?_
      obtain ⟨i68, h⟩ := lb_chk_in h
      refine lb_ist X hW (show lb_ar 55 = 60 + 1 from rfl) i68 dX9_label_68 (fun H locs hW => ?_)
      obtain ⟨s68, e68⟩ : ∃ z, z = lb_sto s54 55 (f_X9_ofT x1 (3 : Int32)).toNatClampNeg x6 := ⟨_, rfl⟩
      rw [← e68] at hW
      have h := lb_letI e68 h
      refine lv_aload_n hx hb dX9_label_69 rfl (lv_at hl 0 rfl) ?_
      refine rg_X9_13 X hW dX9_label_70 ?_
      refine lv_iload_n hx hb dX9_label_73 rfl (lv_at hl 2 rfl) ?_
      obtain ⟨s74, e74, h⟩ := lb_bind h
      refine rc_X9_105 X hW (show lb_ar 55 = 60 + 1 from rfl) e74 ⟨⟨rfl, rfl⟩, Nat.le_of_ble_eq_true rfl, Nat.le_of_ble_eq_true rfl⟩ hl.1 (Nat.le_of_ble_eq_true rfl) dX9_label_74 ⟨Nat.zero_le _, Nat.zero_le _⟩ (fun H locs hW => ?_)
      refine lv_aload_n hx hb dX9_label_77 rfl (lv_at hl 0 rfl) ?_
      refine rg_X9_13 X hW dX9_label_78 ?_
      refine lv_aload_n hx hb dX9_label_81 rfl (lv_at hl 0 rfl) ?_
      refine rg_X9_9 X hW dX9_label_82 ?_
      refine lv_iload_n hx hb dX9_label_85 rfl (lv_at hl 1 rfl) ?_
      refine lv_iconst (v := 5) hx hb dX9_label_86 rfl ?_
      refine rc_X9_45 X hW x1 (5 : Int32) ⟨⟨rfl, rfl⟩, Nat.le_of_ble_eq_true rfl, Nat.le_of_ble_eq_true rfl⟩ hl.1 (Nat.le_of_ble_eq_true rfl) dX9_label_87 ⟨Nat.zero_le _, Nat.zero_le _⟩ (fun H locs hW => ?_)
      obtain ⟨i90, h⟩ := lb_chk_in h
      refine lb_ild X hW (show lb_ar 54 = 60 + 1 from rfl) i90 dX9_label_90 ?_
      refine lv_iconst (v := 1) hx hb dX9_label_91 rfl ?_
      refine rc_X9_52 X hW (s74 54 (f_X9_ofT x1 (5 : Int32)).toNatClampNeg) (1 : Int32) ⟨⟨rfl, rfl⟩, Nat.le_of_ble_eq_true rfl, Nat.le_of_ble_eq_true rfl⟩ hl.1 (Nat.le_of_ble_eq_true rfl) dX9_label_92 ⟨Nat.zero_le _, Nat.zero_le _⟩ (fun H locs hW => ?_)
      obtain ⟨i95, h⟩ := lb_chk_in h
      refine lb_ild X hW (show lb_ar 55 = 60 + 1 from rfl) i95 dX9_label_95 ?_
      refine lv_topi (fun v96 e96 => ?_)
      have h := lb_letI e96 h
      refine lv_istore (lv' := [(7, .int v96), (0, .ref (lb_ad G 53)), (1, .int x1), (2, .int x2), (4, .int x4), (5, .int x5), (6, .int x6)]) hx hb dX9_label_96 hl (by decide) rfl (fun ls hl => ?_)
      refine lv_iload hx hb dX9_label_98 (lv_at hl 0 rfl) ?_
      refine lv_iload hx hb dX9_label_100 (lv_at hl 5 rfl) ?_
      refine lv_icmp_gt (tgt := 108) hx hb dX9_label_102 (by decide) (fun c102 => ?_) (fun c102 => ?_)
      · have h := (if_pos c102).symm.trans h
        refine lv_iload hx hb dX9_label_108 (lv_at hl 6 rfl) ?_
        refine lv_istore (lv' := [(4, .int x6), (7, .int v96), (0, .ref (lb_ad G 53)), (1, .int x1), (2, .int x2), (5, .int x5), (6, .int x6)]) hx hb dX9_label_110 hl (by decide) rfl (fun ls hl => ?_)
        refine lv_iload hx hb dX9_label_112 (lv_at hl 1 rfl) ?_
        refine lv_istore (lv' := [(5, .int v96), (4, .int x6), (7, .int v96), (0, .ref (lb_ad G 53)), (1, .int x1), (2, .int x2), (6, .int x6)]) hx hb dX9_label_114 hl (by decide) rfl (fun ls hl => ?_)
        refine lv_iinc (v := (x6 + 1)) (lv' := [(6, .int (x6 + 1)), (5, .int v96), (4, .int x6), (7, .int v96), (0, .ref (lb_ad G 53)), (1, .int x1), (2, .int x2)]) hx hb dX9_label_116 hl (k := 6) rfl rfl (by decide) rfl (fun ls hl => ?_)
        refine lv_goto (tgt := 39) hx hb dX9_label_119 (by decide) ?_
        exact ih x1 x2 x6 v96 (x6 + 1) s74 _ _ _ h hW (lv_sub hl [4, 5, 6, 2, 1, 0] rfl)
      · have h := (if_neg c102).symm.trans h
        refine lv_goto (tgt := 116) hx hb dX9_label_105 (by decide) ?_
        refine lv_iinc (v := (x6 + 1)) (lv' := [(6, .int (x6 + 1)), (7, .int v96), (0, .ref (lb_ad G 53)), (1, .int x1), (2, .int x2), (4, .int x4), (5, .int x5)]) hx hb dX9_label_116 hl (k := 6) rfl rfl (by decide) rfl (fun ls hl => ?_)
        refine lv_goto (tgt := 39) hx hb dX9_label_119 (by decide) ?_
        exact ih x1 x2 x4 x5 (x6 + 1) s74 _ _ _ h hW (lv_sub hl [2, 3, 4, 5, 6, 0] rfl)
def f_X9_label_19 (x1 : Int32) (x2 : Int32) (σ : lb_Mem) (y0 : Int32) : Option (Int32 × lb_Mem) := if y0 = 0 then f_X9_label_39 lb_N x1 x2 (0 : Int32) (-1 : Int32) (0 : Int32) σ else (f_X9_no y0 σ).bind (fun q26 => some (q26.1, q26.2))
set_option maxRecDepth 20000 in
set_option maxHeartbeats 4000000 in
theorem w_X9_label_19 {p : Program} {l : Launch} {e : Env} {s : State} {m : MethodId} {args : Array Value} {below : List Frame} {meth : Method} {c : Code} {G : lb_G} {qr : (Int32 × lb_Mem)} (X : lb_C G p s m args meth c cX9_label 8 RX9 (some .int)) : ∀ (x1 : Int32) (x2 : Int32) (σ : lb_Mem) (y0 : Int32) (H : Heap) (locs : List Loc) (ls : Array Slot), f_X9_label_19 x1 x2 σ y0 = some qr → lb_W G s σ H locs → lv_has ls 8 [(0, .ref (lb_ad G 53)), (1, .int x1), (2, .int x2)] → W p l e rmX9_label s m args below meth c H locs 0 0 (MQ below (lb_QI G qr.1 qr.2) args s 0 0 (lb_A G)) (F0 m 19 ls [.int y0]) := by
  have hx := X.1
  have hb := X.2.1
  intro x1 x2 σ y0 H locs ls h hW hl
  have h : (if y0 = 0 then f_X9_label_39 lb_N x1 x2 (0 : Int32) (-1 : Int32) (0 : Int32) σ else (f_X9_no y0 σ).bind (fun q26 => some (q26.1, q26.2))) = some qr := h
  refine lv_istore_n (lv' := [(3, .int y0), (0, .ref (lb_ad G 53)), (1, .int x1), (2, .int x2)]) hx hb dX9_label_19 rfl hl (by decide) rfl (fun ls hl => ?_)
  refine lv_iload_n hx hb dX9_label_20 rfl (lv_at hl 0 rfl) ?_
  refine lv_if_eq (tgt := 30) hx hb dX9_label_21 (by decide) (fun c21 => ?_) (fun c21 => ?_)
  · have h := (if_pos c21).symm.trans h
    refine lv_iconst (v := 0) hx hb dX9_label_30 rfl ?_
    refine lv_istore (lv' := [(4, .int (0 : Int32)), (3, .int y0), (0, .ref (lb_ad G 53)), (1, .int x1), (2, .int x2)]) hx hb dX9_label_31 hl (by decide) rfl (fun ls hl => ?_)
    refine lv_iconst (v := -1) hx hb dX9_label_33 rfl ?_
    refine lv_istore (lv' := [(5, .int (-1 : Int32)), (4, .int (0 : Int32)), (3, .int y0), (0, .ref (lb_ad G 53)), (1, .int x1), (2, .int x2)]) hx hb dX9_label_34 hl (by decide) rfl (fun ls hl => ?_)
    refine lv_iconst (v := 0) hx hb dX9_label_36 rfl ?_
    refine lv_istore (lv' := [(6, .int (0 : Int32)), (5, .int (-1 : Int32)), (4, .int (0 : Int32)), (3, .int y0), (0, .ref (lb_ad G 53)), (1, .int x1), (2, .int x2)]) hx hb dX9_label_37 hl (by decide) rfl (fun ls hl => ?_)
    exact w_X9_label_39 X lb_N x1 x2 (0 : Int32) (-1 : Int32) (0 : Int32) σ _ _ _ h hW (lv_sub hl [4, 5, 6, 2, 1, 0] rfl)
  · have h := (if_neg c21).symm.trans h
    refine lv_aload_n hx hb dX9_label_24 rfl (lv_at hl 1 rfl) ?_
    refine lv_iload_n hx hb dX9_label_25 rfl (lv_at hl 0 rfl) ?_
    obtain ⟨q26, e26, h⟩ := lb_bind h
    refine rc_X9_35 X hW e26 ⟨⟨rfl, rfl⟩, Nat.le_of_ble_eq_true rfl, Nat.le_of_ble_eq_true rfl⟩ hl.1 (Nat.le_of_ble_eq_true rfl) dX9_label_26 ⟨Nat.zero_le _, Nat.zero_le _⟩ (fun H locs hW => ?_)
    obtain rfl := Option.some.inj h
    exact lb_iret X hW dX9_label_29
def f_X9_label (x1 : Int32) (x2 : Int32) (σ : lb_Mem) : Option (Int32 × lb_Mem) := if (f_X9_isPot σ x1) = 0 then f_X9_label_19 x1 x2 σ (-1 : Int32) else f_X9_label_19 x1 x2 σ (f_X9_wrongBy x2 (0 : Int32) (30 : Int32))
set_option maxRecDepth 20000 in
set_option maxHeartbeats 4000000 in
theorem m_X9_label (l : Launch) (G : lb_G) (σ : lb_Mem) (x1 : Int32) (x2 : Int32) (qr : (Int32 × lb_Mem)) (h : f_X9_label x1 x2 σ = some qr) : lb_M l yX9_label cX9_label 8 (some .int) rmX9_label [.ref (lb_ad G 53), .int x1, .int x2] G σ (lb_QI G qr.1 qr.2) := by
  refine lb_start RX9 (by decide +kernel) rfl (Nat.le_of_ble_eq_true rfl) (fun p e s m below meth c X hW ls hl => ?_)
  have hx := X.1
  have hb := X.2.1
  have hl : lv_has ls 8 [(0, .ref (lb_ad G 53)), (1, .int x1), (2, .int x2)] := hl
  have h : (if (f_X9_isPot σ x1) = 0 then f_X9_label_19 x1 x2 σ (-1 : Int32) else f_X9_label_19 x1 x2 σ (f_X9_wrongBy x2 (0 : Int32) (30 : Int32))) = some qr := h
  skip
  refine lv_aload_n hx hb dX9_label_0 rfl (lv_at hl 0 rfl) ?_
  refine lv_iload_n hx hb dX9_label_1 rfl (lv_at hl 1 rfl) ?_
  refine rc_X9_102 X hW x1 ⟨⟨rfl, rfl⟩, Nat.le_of_ble_eq_true rfl, Nat.le_of_ble_eq_true rfl⟩ hl.1 (Nat.le_of_ble_eq_true rfl) dX9_label_2 ⟨Nat.zero_le _, Nat.zero_le _⟩ (fun H locs hW => ?_)
  refine lv_if_eq (tgt := 18) hx hb dX9_label_5 (by decide) (fun c5 => ?_) (fun c5 => ?_)
  · have h := (if_pos c5).symm.trans h
    refine lv_iconst (v := -1) hx hb dX9_label_18 rfl ?_
    exact w_X9_label_19 X x1 x2 σ (-1 : Int32) _ _ _ h hW (lv_sub hl [0, 1, 2] rfl)
  · have h := (if_neg c5).symm.trans h
    refine lv_iload_n hx hb dX9_label_8 rfl (lv_at hl 2 rfl) ?_
    refine lv_iconst (v := 0) hx hb dX9_label_9 rfl ?_
    refine lv_bipush (v := 30) hx hb dX9_label_10 rfl ?_
    refine rc_X9_125 X hW x2 (0 : Int32) (30 : Int32) ⟨⟨rfl, rfl⟩, Nat.le_of_ble_eq_true rfl, Nat.le_of_ble_eq_true rfl⟩ hl.1 (Nat.le_of_ble_eq_true rfl) dX9_label_12 ⟨Nat.zero_le _, Nat.zero_le _⟩ (fun H locs hW => ?_)
    refine lv_goto (tgt := 19) hx hb dX9_label_15 (by decide) ?_
    exact w_X9_label_19 X x1 x2 σ (f_X9_wrongBy x2 (0 : Int32) (30 : Int32)) _ _ _ h hW (lv_sub hl [0, 1, 2] rfl)
abbrev rmX9_honestOnes : Room := { frames := 1, cells := 0, slots := 0, locals := 21 }
def f_X9_honestOnes_4 (σ : lb_Mem) : Nat → Int32 → Int32 → Option Int32
  | 0, _, _ => none
  | n + 1, x1, x2 => if (σ 54 (0 : Int32).toNatClampNeg) ≤ x2 then some x1 else lb_chk (lb_ix (f_X9_ofT x2 (3 : Int32)) 61) (lb_chk (lb_ix (f_X9_ofT x2 (2 : Int32)) 61) (if (σ 54 (f_X9_ofT x2 (3 : Int32)).toNatClampNeg) = (σ 54 (f_X9_ofT x2 (2 : Int32)).toNatClampNeg) then lb_let ((x1 ||| ((1 : Int32) <<< (x2 &&& 31)))) (fun v46 : Int32 => f_X9_honestOnes_4 σ n v46 (x2 + 1)) else lb_let ((x1 ||| (0 : Int32))) (fun v46 : Int32 => f_X9_honestOnes_4 σ n v46 (x2 + 1))))
set_option maxRecDepth 20000 in
set_option maxHeartbeats 4000000 in
theorem w_X9_honestOnes_4 {p : Program} {l : Launch} {e : Env} {s : State} {m : MethodId} {args : Array Value} {below : List Frame} {meth : Method} {c : Code} {G : lb_G} {σ : lb_Mem} {qr : Int32} (X : lb_C G p s m args meth c cX9_honestOnes 3 RX9 (some .int)) : ∀ (n : Nat) (x1 : Int32) (x2 : Int32) (H : Heap) (locs : List Loc) (ls : Array Slot), f_X9_honestOnes_4 σ n x1 x2 = some qr → lb_W G s σ H locs → lv_has ls 3 [(0, .ref (lb_ad G 53)), (1, .int x1), (2, .int x2)] → W p l e rmX9_honestOnes s m args below meth c H locs 0 0 (MQ below (lb_QI G qr σ) args s 0 0 (lb_A G)) (F0 m 4 ls []) := by
  have hx := X.1
  have hb := X.2.1
  intro n
  induction n with
  | zero => intro x1 x2 H locs ls h hW hl; exact absurd h (fun z => by cases z)
  | succ n ih =>
    intro x1 x2 H locs ls h hW hl
    have h : (if (σ 54 (0 : Int32).toNatClampNeg) ≤ x2 then some x1 else lb_chk (lb_ix (f_X9_ofT x2 (3 : Int32)) 61) (lb_chk (lb_ix (f_X9_ofT x2 (2 : Int32)) 61) (if (σ 54 (f_X9_ofT x2 (3 : Int32)).toNatClampNeg) = (σ 54 (f_X9_ofT x2 (2 : Int32)).toNatClampNeg) then lb_let ((x1 ||| ((1 : Int32) <<< (x2 &&& 31)))) (fun v46 : Int32 => f_X9_honestOnes_4 σ n v46 (x2 + 1)) else lb_let ((x1 ||| (0 : Int32))) (fun v46 : Int32 => f_X9_honestOnes_4 σ n v46 (x2 + 1))))) = some qr := h
    refine lv_iload_n hx hb dX9_honestOnes_4 rfl (lv_at hl 2 rfl) ?_
    refine lv_aload_n hx hb dX9_honestOnes_5 rfl (lv_at hl 0 rfl) ?_
    refine rg_X9_9 X hW dX9_honestOnes_6 ?_
    refine lv_iconst (v := 0) hx hb dX9_honestOnes_9 rfl ?_
    refine lb_ild X hW (show lb_ar 54 = 60 + 1 from rfl) (lb_inC rfl) dX9_honestOnes_10 ?_
    refine lv_icmp_ge (tgt := 53) hx hb dX9_honestOnes_11 (by decide) (fun c11 => ?_) (fun c11 => ?_)
    · have h := (if_pos c11).symm.trans h
      refine lv_iload_n hx hb dX9_honestOnes_53 rfl (lv_at hl 1 rfl) ?_
      obtain rfl := Option.some.inj h
      exact lb_iret X hW dX9_honestOnes_54
    · have h := (if_neg c11).symm.trans h
      refine lv_iload_n hx hb dX9_honestOnes_14 rfl (lv_at hl 1 rfl) ?_
      refine lv_aload_n hx hb dX9_honestOnes_15 rfl (lv_at hl 0 rfl) ?_
      refine rg_X9_9 X hW dX9_honestOnes_16 ?_
      refine lv_iload_n hx hb dX9_honestOnes_19 rfl (lv_at hl 2 rfl) ?_
      refine lv_iconst (v := 3) hx hb dX9_honestOnes_20 rfl ?_
      refine rc_X9_45 X hW x2 (3 : Int32) ⟨⟨rfl, rfl⟩, Nat.le_of_ble_eq_true rfl, Nat.le_of_ble_eq_true rfl⟩ hl.1 (Nat.le_of_ble_eq_true rfl) dX9_honestOnes_21 ⟨Nat.zero_le _, Nat.zero_le _⟩ (fun H locs hW => ?_)
      obtain ⟨i24, h⟩ := lb_chk_in h
      refine lb_ild X hW (show lb_ar 54 = 60 + 1 from rfl) i24 dX9_honestOnes_24 ?_
      refine lv_aload_n hx hb dX9_honestOnes_25 rfl (lv_at hl 0 rfl) ?_
      refine rg_X9_9 X hW dX9_honestOnes_26 ?_
      refine lv_iload_n hx hb dX9_honestOnes_29 rfl (lv_at hl 2 rfl) ?_
      refine lv_iconst (v := 2) hx hb dX9_honestOnes_30 rfl ?_
      refine rc_X9_45 X hW x2 (2 : Int32) ⟨⟨rfl, rfl⟩, Nat.le_of_ble_eq_true rfl, Nat.le_of_ble_eq_true rfl⟩ hl.1 (Nat.le_of_ble_eq_true rfl) dX9_honestOnes_31 ⟨Nat.zero_le _, Nat.zero_le _⟩ (fun H locs hW => ?_)
      obtain ⟨i34, h⟩ := lb_chk_in h
      refine lb_ild X hW (show lb_ar 54 = 60 + 1 from rfl) i34 dX9_honestOnes_34 ?_
      refine lv_icmp_ne (tgt := 44) hx hb dX9_honestOnes_35 (by decide) (fun c35 => ?_) (fun c35 => ?_)
      · have h := (if_neg c35).symm.trans h
        refine lv_iconst (v := 0) hx hb dX9_honestOnes_44 rfl ?_
        refine lv_ior hx hb dX9_honestOnes_45 ?_
        refine lv_topi (fun v46 e46 => ?_)
        have h := lb_letI e46 h
        refine lv_istore_n (lv' := [(1, .int v46), (0, .ref (lb_ad G 53)), (2, .int x2)]) hx hb dX9_honestOnes_46 rfl hl (by decide) rfl (fun ls hl => ?_)
        refine lv_iinc (v := (x2 + 1)) (lv' := [(2, .int (x2 + 1)), (1, .int v46), (0, .ref (lb_ad G 53))]) hx hb dX9_honestOnes_47 hl (k := 2) rfl rfl (by decide) rfl (fun ls hl => ?_)
        refine lv_goto (tgt := 4) hx hb dX9_honestOnes_50 (by decide) ?_
        exact ih v46 (x2 + 1) _ _ _ h hW (lv_sub hl [2, 1, 0] rfl)
      · have h := (if_pos c35).symm.trans h
        refine lv_iconst (v := 1) hx hb dX9_honestOnes_38 rfl ?_
        refine lv_iload_n hx hb dX9_honestOnes_39 rfl (lv_at hl 2 rfl) ?_
        refine lv_ishl hx hb dX9_honestOnes_40 ?_
        refine lv_goto (tgt := 45) hx hb dX9_honestOnes_41 (by decide) ?_
        refine lv_ior hx hb dX9_honestOnes_45 ?_
        refine lv_topi (fun v46 e46 => ?_)
        have h := lb_letI e46 h
        refine lv_istore_n (lv' := [(1, .int v46), (0, .ref (lb_ad G 53)), (2, .int x2)]) hx hb dX9_honestOnes_46 rfl hl (by decide) rfl (fun ls hl => ?_)
        refine lv_iinc (v := (x2 + 1)) (lv' := [(2, .int (x2 + 1)), (1, .int v46), (0, .ref (lb_ad G 53))]) hx hb dX9_honestOnes_47 hl (k := 2) rfl rfl (by decide) rfl (fun ls hl => ?_)
        refine lv_goto (tgt := 4) hx hb dX9_honestOnes_50 (by decide) ?_
        exact ih v46 (x2 + 1) _ _ _ h hW (lv_sub hl [2, 1, 0] rfl)
def f_X9_honestOnes (σ : lb_Mem) : Option Int32 := f_X9_honestOnes_4 σ lb_N (0 : Int32) (0 : Int32)
set_option maxRecDepth 20000 in
set_option maxHeartbeats 4000000 in
theorem m_X9_honestOnes (l : Launch) (G : lb_G) (σ : lb_Mem) (qr : Int32) (h : f_X9_honestOnes σ = some qr) : lb_M l yX9_honestOnes cX9_honestOnes 3 (some .int) rmX9_honestOnes [.ref (lb_ad G 53)] G σ (lb_QI G qr σ) := by
  refine lb_start RX9 (by decide +kernel) rfl (Nat.le_of_ble_eq_true rfl) (fun p e s m below meth c X hW ls hl => ?_)
  have hx := X.1
  have hb := X.2.1
  have hl : lv_has ls 3 [(0, .ref (lb_ad G 53))] := hl
  have h : (f_X9_honestOnes_4 σ lb_N (0 : Int32) (0 : Int32)) = some qr := h
  skip
  refine lv_iconst (v := 0) hx hb dX9_honestOnes_0 rfl ?_
  refine lv_istore_n (lv' := [(1, .int (0 : Int32)), (0, .ref (lb_ad G 53))]) hx hb dX9_honestOnes_1 rfl hl (by decide) rfl (fun ls hl => ?_)
  refine lv_iconst (v := 0) hx hb dX9_honestOnes_2 rfl ?_
  refine lv_istore_n (lv' := [(2, .int (0 : Int32)), (1, .int (0 : Int32)), (0, .ref (lb_ad G 53))]) hx hb dX9_honestOnes_3 rfl hl (by decide) rfl (fun ls hl => ?_)
  exact w_X9_honestOnes_4 X lb_N (0 : Int32) (0 : Int32) _ _ _ h hW (lv_sub hl [2, 1, 0] rfl)
abbrev rmX9_hopefulOnes : Room := { frames := 1, cells := 0, slots := 0, locals := 21 }
def f_X9_hopefulOnes_4 (σ : lb_Mem) : Nat → Int32 → Int32 → Option Int32
  | 0, _, _ => none
  | n + 1, x1, x2 => if (σ 54 (0 : Int32).toNatClampNeg) ≤ x2 then some x1 else lb_chk (lb_ix (f_X9_ofT x2 (3 : Int32)) 61) (lb_chk (lb_ix (f_X9_ofT x2 (5 : Int32)) 61) (lb_chk (lb_ix (f_X9_ofP (σ 54 (f_X9_ofT x2 (5 : Int32)).toNatClampNeg) (0 : Int32)) 61) (if (σ 54 (f_X9_ofT x2 (3 : Int32)).toNatClampNeg) = (σ 54 (f_X9_ofP (σ 54 (f_X9_ofT x2 (5 : Int32)).toNatClampNeg) (0 : Int32)).toNatClampNeg) then lb_let ((x1 ||| ((1 : Int32) <<< (x2 &&& 31)))) (fun v55 : Int32 => f_X9_hopefulOnes_4 σ n v55 (x2 + 1)) else lb_let ((x1 ||| (0 : Int32))) (fun v55 : Int32 => f_X9_hopefulOnes_4 σ n v55 (x2 + 1)))))
set_option maxRecDepth 20000 in
set_option maxHeartbeats 4000000 in
theorem w_X9_hopefulOnes_4 {p : Program} {l : Launch} {e : Env} {s : State} {m : MethodId} {args : Array Value} {below : List Frame} {meth : Method} {c : Code} {G : lb_G} {σ : lb_Mem} {qr : Int32} (X : lb_C G p s m args meth c cX9_hopefulOnes 3 RX9 (some .int)) : ∀ (n : Nat) (x1 : Int32) (x2 : Int32) (H : Heap) (locs : List Loc) (ls : Array Slot), f_X9_hopefulOnes_4 σ n x1 x2 = some qr → lb_W G s σ H locs → lv_has ls 3 [(0, .ref (lb_ad G 53)), (1, .int x1), (2, .int x2)] → W p l e rmX9_hopefulOnes s m args below meth c H locs 0 0 (MQ below (lb_QI G qr σ) args s 0 0 (lb_A G)) (F0 m 4 ls []) := by
  have hx := X.1
  have hb := X.2.1
  intro n
  induction n with
  | zero => intro x1 x2 H locs ls h hW hl; exact absurd h (fun z => by cases z)
  | succ n ih =>
    intro x1 x2 H locs ls h hW hl
    have h : (if (σ 54 (0 : Int32).toNatClampNeg) ≤ x2 then some x1 else lb_chk (lb_ix (f_X9_ofT x2 (3 : Int32)) 61) (lb_chk (lb_ix (f_X9_ofT x2 (5 : Int32)) 61) (lb_chk (lb_ix (f_X9_ofP (σ 54 (f_X9_ofT x2 (5 : Int32)).toNatClampNeg) (0 : Int32)) 61) (if (σ 54 (f_X9_ofT x2 (3 : Int32)).toNatClampNeg) = (σ 54 (f_X9_ofP (σ 54 (f_X9_ofT x2 (5 : Int32)).toNatClampNeg) (0 : Int32)).toNatClampNeg) then lb_let ((x1 ||| ((1 : Int32) <<< (x2 &&& 31)))) (fun v55 : Int32 => f_X9_hopefulOnes_4 σ n v55 (x2 + 1)) else lb_let ((x1 ||| (0 : Int32))) (fun v55 : Int32 => f_X9_hopefulOnes_4 σ n v55 (x2 + 1)))))) = some qr := h
    refine lv_iload_n hx hb dX9_hopefulOnes_4 rfl (lv_at hl 2 rfl) ?_
    refine lv_aload_n hx hb dX9_hopefulOnes_5 rfl (lv_at hl 0 rfl) ?_
    refine rg_X9_9 X hW dX9_hopefulOnes_6 ?_
    refine lv_iconst (v := 0) hx hb dX9_hopefulOnes_9 rfl ?_
    refine lb_ild X hW (show lb_ar 54 = 60 + 1 from rfl) (lb_inC rfl) dX9_hopefulOnes_10 ?_
    refine lv_icmp_ge (tgt := 62) hx hb dX9_hopefulOnes_11 (by decide) (fun c11 => ?_) (fun c11 => ?_)
    · have h := (if_pos c11).symm.trans h
      refine lv_iload_n hx hb dX9_hopefulOnes_62 rfl (lv_at hl 1 rfl) ?_
      obtain rfl := Option.some.inj h
      exact lb_iret X hW dX9_hopefulOnes_63
    · have h := (if_neg c11).symm.trans h
      refine lv_iload_n hx hb dX9_hopefulOnes_14 rfl (lv_at hl 1 rfl) ?_
      refine lv_aload_n hx hb dX9_hopefulOnes_15 rfl (lv_at hl 0 rfl) ?_
      refine rg_X9_9 X hW dX9_hopefulOnes_16 ?_
      refine lv_iload_n hx hb dX9_hopefulOnes_19 rfl (lv_at hl 2 rfl) ?_
      refine lv_iconst (v := 3) hx hb dX9_hopefulOnes_20 rfl ?_
      refine rc_X9_45 X hW x2 (3 : Int32) ⟨⟨rfl, rfl⟩, Nat.le_of_ble_eq_true rfl, Nat.le_of_ble_eq_true rfl⟩ hl.1 (Nat.le_of_ble_eq_true rfl) dX9_hopefulOnes_21 ⟨Nat.zero_le _, Nat.zero_le _⟩ (fun H locs hW => ?_)
      obtain ⟨i24, h⟩ := lb_chk_in h
      refine lb_ild X hW (show lb_ar 54 = 60 + 1 from rfl) i24 dX9_hopefulOnes_24 ?_
      refine lv_aload_n hx hb dX9_hopefulOnes_25 rfl (lv_at hl 0 rfl) ?_
      refine rg_X9_9 X hW dX9_hopefulOnes_26 ?_
      refine lv_aload_n hx hb dX9_hopefulOnes_29 rfl (lv_at hl 0 rfl) ?_
      refine rg_X9_9 X hW dX9_hopefulOnes_30 ?_
      refine lv_iload_n hx hb dX9_hopefulOnes_33 rfl (lv_at hl 2 rfl) ?_
      refine lv_iconst (v := 5) hx hb dX9_hopefulOnes_34 rfl ?_
      refine rc_X9_45 X hW x2 (5 : Int32) ⟨⟨rfl, rfl⟩, Nat.le_of_ble_eq_true rfl, Nat.le_of_ble_eq_true rfl⟩ hl.1 (Nat.le_of_ble_eq_true rfl) dX9_hopefulOnes_35 ⟨Nat.zero_le _, Nat.zero_le _⟩ (fun H locs hW => ?_)
      obtain ⟨i38, h⟩ := lb_chk_in h
      refine lb_ild X hW (show lb_ar 54 = 60 + 1 from rfl) i38 dX9_hopefulOnes_38 ?_
      refine lv_iconst (v := 0) hx hb dX9_hopefulOnes_39 rfl ?_
      refine rc_X9_52 X hW (σ 54 (f_X9_ofT x2 (5 : Int32)).toNatClampNeg) (0 : Int32) ⟨⟨rfl, rfl⟩, Nat.le_of_ble_eq_true rfl, Nat.le_of_ble_eq_true rfl⟩ hl.1 (Nat.le_of_ble_eq_true rfl) dX9_hopefulOnes_40 ⟨Nat.zero_le _, Nat.zero_le _⟩ (fun H locs hW => ?_)
      obtain ⟨i43, h⟩ := lb_chk_in h
      refine lb_ild X hW (show lb_ar 54 = 60 + 1 from rfl) i43 dX9_hopefulOnes_43 ?_
      refine lv_icmp_ne (tgt := 53) hx hb dX9_hopefulOnes_44 (by decide) (fun c44 => ?_) (fun c44 => ?_)
      · have h := (if_neg c44).symm.trans h
        refine lv_iconst (v := 0) hx hb dX9_hopefulOnes_53 rfl ?_
        refine lv_ior hx hb dX9_hopefulOnes_54 ?_
        refine lv_topi (fun v55 e55 => ?_)
        have h := lb_letI e55 h
        refine lv_istore_n (lv' := [(1, .int v55), (0, .ref (lb_ad G 53)), (2, .int x2)]) hx hb dX9_hopefulOnes_55 rfl hl (by decide) rfl (fun ls hl => ?_)
        refine lv_iinc (v := (x2 + 1)) (lv' := [(2, .int (x2 + 1)), (1, .int v55), (0, .ref (lb_ad G 53))]) hx hb dX9_hopefulOnes_56 hl (k := 2) rfl rfl (by decide) rfl (fun ls hl => ?_)
        refine lv_goto (tgt := 4) hx hb dX9_hopefulOnes_59 (by decide) ?_
        exact ih v55 (x2 + 1) _ _ _ h hW (lv_sub hl [2, 1, 0] rfl)
      · have h := (if_pos c44).symm.trans h
        refine lv_iconst (v := 1) hx hb dX9_hopefulOnes_47 rfl ?_
        refine lv_iload_n hx hb dX9_hopefulOnes_48 rfl (lv_at hl 2 rfl) ?_
        refine lv_ishl hx hb dX9_hopefulOnes_49 ?_
        refine lv_goto (tgt := 54) hx hb dX9_hopefulOnes_50 (by decide) ?_
        refine lv_ior hx hb dX9_hopefulOnes_54 ?_
        refine lv_topi (fun v55 e55 => ?_)
        have h := lb_letI e55 h
        refine lv_istore_n (lv' := [(1, .int v55), (0, .ref (lb_ad G 53)), (2, .int x2)]) hx hb dX9_hopefulOnes_55 rfl hl (by decide) rfl (fun ls hl => ?_)
        refine lv_iinc (v := (x2 + 1)) (lv' := [(2, .int (x2 + 1)), (1, .int v55), (0, .ref (lb_ad G 53))]) hx hb dX9_hopefulOnes_56 hl (k := 2) rfl rfl (by decide) rfl (fun ls hl => ?_)
        refine lv_goto (tgt := 4) hx hb dX9_hopefulOnes_59 (by decide) ?_
        exact ih v55 (x2 + 1) _ _ _ h hW (lv_sub hl [2, 1, 0] rfl)
def f_X9_hopefulOnes (σ : lb_Mem) : Option Int32 := f_X9_hopefulOnes_4 σ lb_N (0 : Int32) (0 : Int32)
set_option maxRecDepth 20000 in
set_option maxHeartbeats 4000000 in
theorem m_X9_hopefulOnes (l : Launch) (G : lb_G) (σ : lb_Mem) (qr : Int32) (h : f_X9_hopefulOnes σ = some qr) : lb_M l yX9_hopefulOnes cX9_hopefulOnes 3 (some .int) rmX9_hopefulOnes [.ref (lb_ad G 53)] G σ (lb_QI G qr σ) := by
  refine lb_start RX9 (by decide +kernel) rfl (Nat.le_of_ble_eq_true rfl) (fun p e s m below meth c X hW ls hl => ?_)
  have hx := X.1
  have hb := X.2.1
  have hl : lv_has ls 3 [(0, .ref (lb_ad G 53))] := hl
  have h : (f_X9_hopefulOnes_4 σ lb_N (0 : Int32) (0 : Int32)) = some qr := h
  skip
  refine lv_iconst (v := 0) hx hb dX9_hopefulOnes_0 rfl ?_
  refine lv_istore_n (lv' := [(1, .int (0 : Int32)), (0, .ref (lb_ad G 53))]) hx hb dX9_hopefulOnes_1 rfl hl (by decide) rfl (fun ls hl => ?_)
  refine lv_iconst (v := 0) hx hb dX9_hopefulOnes_2 rfl ?_
  refine lv_istore_n (lv' := [(2, .int (0 : Int32)), (1, .int (0 : Int32)), (0, .ref (lb_ad G 53))]) hx hb dX9_hopefulOnes_3 rfl hl (by decide) rfl (fun ls hl => ?_)
  exact w_X9_hopefulOnes_4 X lb_N (0 : Int32) (0 : Int32) _ _ _ h hW (lv_sub hl [2, 1, 0] rfl)
theorem rc_X9_143 {p : Program} {l : Launch} {e : Env} {R : Room} {s : State} {m : MethodId} {args : Array Value} {below : List Frame} {meth : Method} {c : Code} {H : Heap} {locs : List Loc} {cells slots : Nat} {Q : State → Prop} {cc : ByteArray} {pc nL : Nat} {ls : Array Slot} {rest : List Value} {G : lb_G} {σ : lb_Mem} {ret : Option FieldType} (X : lb_C G p s m args meth c cc nL RX9 ret) (hW : lb_W G s σ H locs) {qr : Int32} (h : f_X9_honestOnes σ = some qr) (hR : lb_room rmX9_honestOnes R 3) (hls : ls.size = nL) (hrest : (rest.map fun v => v.category).sum ≤ 8) (d : decode cc pc = .ok (.invokevirtual 143, 3)) (hcap : cells ≤ R.cells ∧ slots ≤ R.slots) (kk : ∀ (H1 : Heap) (locs1 : List Loc), lb_W G s σ H1 locs1 → W p l e R s m args below meth c H1 locs1 cells slots Q (F0 m (pc + 3) ls (.int qr :: rest))) : W p l e R s m args below meth c H locs cells slots Q (F0 m pc ls (.ref (lb_ad G 53) :: rest)) :=
  lb_goI hW (lb_runV (As := []) X hW (m_X9_honestOnes l G σ qr h) (n := 0) ⟨qw_977, qw_52, qw_980, by decide +kernel⟩ hR qw_979 qw_31 lb_is53 rfl hls hrest d hcap) kk
theorem rc_X9_146 {p : Program} {l : Launch} {e : Env} {R : Room} {s : State} {m : MethodId} {args : Array Value} {below : List Frame} {meth : Method} {c : Code} {H : Heap} {locs : List Loc} {cells slots : Nat} {Q : State → Prop} {cc : ByteArray} {pc nL : Nat} {ls : Array Slot} {rest : List Value} {G : lb_G} {σ : lb_Mem} {ret : Option FieldType} (X : lb_C G p s m args meth c cc nL RX9 ret) (hW : lb_W G s σ H locs) {qr : Int32} (h : f_X9_hopefulOnes σ = some qr) (hR : lb_room rmX9_hopefulOnes R 3) (hls : ls.size = nL) (hrest : (rest.map fun v => v.category).sum ≤ 8) (d : decode cc pc = .ok (.invokevirtual 146, 3)) (hcap : cells ≤ R.cells ∧ slots ≤ R.slots) (kk : ∀ (H1 : Heap) (locs1 : List Loc), lb_W G s σ H1 locs1 → W p l e R s m args below meth c H1 locs1 cells slots Q (F0 m (pc + 3) ls (.int qr :: rest))) : W p l e R s m args below meth c H locs cells slots Q (F0 m pc ls (.ref (lb_ad G 53) :: rest)) :=
  lb_goI hW (lb_runV (As := []) X hW (m_X9_hopefulOnes l G σ qr h) (n := 0) ⟨qw_981, qw_52, qw_984, by decide +kernel⟩ hR qw_983 qw_32 lb_is53 rfl hls hrest d hcap) kk
abbrev rmX9_honest : Room := { frames := 2, cells := 0, slots := 0, locals := 43 }
def f_X9_honest (x1 : Int32) (σ : lb_Mem) : Option (Int32 × lb_Mem) := if x1 = 0 then (f_X9_honestOnes σ).bind (fun q5 => some (q5, σ)) else if x1 = (1 : Int32) then (f_X9_hopefulOnes σ).bind (fun q17 => some (q17, σ)) else (f_X9_no (-2 : Int32) σ).bind (fun q26 => some (q26.1, q26.2))
set_option maxRecDepth 20000 in
set_option maxHeartbeats 4000000 in
theorem m_X9_honest (l : Launch) (G : lb_G) (σ : lb_Mem) (x1 : Int32) (qr : (Int32 × lb_Mem)) (h : f_X9_honest x1 σ = some qr) : lb_M l yX9_honest cX9_honest 2 (some .int) rmX9_honest [.ref (lb_ad G 53), .int x1] G σ (lb_QI G qr.1 qr.2) := by
  refine lb_start RX9 (by decide +kernel) rfl (Nat.le_of_ble_eq_true rfl) (fun p e s m below meth c X hW ls hl => ?_)
  have hx := X.1
  have hb := X.2.1
  have hl : lv_has ls 2 [(0, .ref (lb_ad G 53)), (1, .int x1)] := hl
  have h : (if x1 = 0 then (f_X9_honestOnes σ).bind (fun q5 => some (q5, σ)) else if x1 = (1 : Int32) then (f_X9_hopefulOnes σ).bind (fun q17 => some (q17, σ)) else (f_X9_no (-2 : Int32) σ).bind (fun q26 => some (q26.1, q26.2))) = some qr := h
  skip
  refine lv_iload_n hx hb dX9_honest_0 rfl (lv_at hl 1 rfl) ?_
  refine lv_if_ne (tgt := 11) hx hb dX9_honest_1 (by decide) (fun c1 => ?_) (fun c1 => ?_)
  · have h := (if_neg c1).symm.trans h
    refine lv_iload_n hx hb dX9_honest_11 rfl (lv_at hl 1 rfl) ?_
    refine lv_iconst (v := 1) hx hb dX9_honest_12 rfl ?_
    refine lv_icmp_ne (tgt := 23) hx hb dX9_honest_13 (by decide) (fun c13 => ?_) (fun c13 => ?_)
    · have h := (if_neg c13).symm.trans h
      refine lv_aload_n hx hb dX9_honest_23 rfl (lv_at hl 0 rfl) ?_
      refine lv_bipush (v := -2) hx hb dX9_honest_24 rfl ?_
      obtain ⟨q26, e26, h⟩ := lb_bind h
      refine rc_X9_35 X hW e26 ⟨⟨rfl, rfl⟩, Nat.le_of_ble_eq_true rfl, Nat.le_of_ble_eq_true rfl⟩ hl.1 (Nat.le_of_ble_eq_true rfl) dX9_honest_26 ⟨Nat.zero_le _, Nat.zero_le _⟩ (fun H locs hW => ?_)
      obtain rfl := Option.some.inj h
      exact lb_iret X hW dX9_honest_29
    · have h := (if_pos c13).symm.trans h
      refine lv_aload_n hx hb dX9_honest_16 rfl (lv_at hl 0 rfl) ?_
      obtain ⟨q17, e17, h⟩ := lb_bind h
      refine rc_X9_146 X hW e17 ⟨⟨rfl, rfl⟩, Nat.le_of_ble_eq_true rfl, Nat.le_of_ble_eq_true rfl⟩ hl.1 (Nat.le_of_ble_eq_true rfl) dX9_honest_17 ⟨Nat.zero_le _, Nat.zero_le _⟩ (fun H locs hW => ?_)
      refine lv_goto (tgt := 29) hx hb dX9_honest_20 (by decide) ?_
      obtain rfl := Option.some.inj h
      exact lb_iret X hW dX9_honest_29
  · have h := (if_pos c1).symm.trans h
    refine lv_aload_n hx hb dX9_honest_4 rfl (lv_at hl 0 rfl) ?_
    obtain ⟨q5, e5, h⟩ := lb_bind h
    refine rc_X9_143 X hW e5 ⟨⟨rfl, rfl⟩, Nat.le_of_ble_eq_true rfl, Nat.le_of_ble_eq_true rfl⟩ hl.1 (Nat.le_of_ble_eq_true rfl) dX9_honest_5 ⟨Nat.zero_le _, Nat.zero_le _⟩ (fun H locs hW => ?_)
    refine lv_goto (tgt := 29) hx hb dX9_honest_8 (by decide) ?_
    obtain rfl := Option.some.inj h
    exact lb_iret X hW dX9_honest_29
abbrev rmX9_graceNow : Room := { frames := 6, cells := 0, slots := 0, locals := 132 }
def f_X9_graceNow (x1 : Int32) (σ : lb_Mem) : Option (Int32 × lb_Mem) := (f_X9_takes x1 σ).bind (fun s2 => (f_X9_allGrace s2 55).bind (fun q9 => some (q9, s2)))
set_option maxRecDepth 20000 in
set_option maxHeartbeats 4000000 in
theorem m_X9_graceNow (l : Launch) (G : lb_G) (σ : lb_Mem) (x1 : Int32) (qr : (Int32 × lb_Mem)) (h : f_X9_graceNow x1 σ = some qr) : lb_M l yX9_graceNow cX9_graceNow 2 (some .int) rmX9_graceNow [.ref (lb_ad G 53), .int x1] G σ (lb_QI G qr.1 qr.2) := by
  refine lb_start RX9 (by decide +kernel) rfl (Nat.le_of_ble_eq_true rfl) (fun p e s m below meth c X hW ls hl => ?_)
  have hx := X.1
  have hb := X.2.1
  have hl : lv_has ls 2 [(0, .ref (lb_ad G 53)), (1, .int x1)] := hl
  have h : ((f_X9_takes x1 σ).bind (fun s2 => (f_X9_allGrace s2 55).bind (fun q9 => some (q9, s2)))) = some qr := h
  skip
  refine lv_aload_n hx hb dX9_graceNow_0 rfl (lv_at hl 0 rfl) ?_
  refine lv_iload_n hx hb dX9_graceNow_1 rfl (lv_at hl 1 rfl) ?_
  obtain ⟨s2, e2, h⟩ := lb_bind h
  refine rc_X9_133 X hW e2 ⟨⟨rfl, rfl⟩, Nat.le_of_ble_eq_true rfl, Nat.le_of_ble_eq_true rfl⟩ hl.1 (Nat.le_of_ble_eq_true rfl) dX9_graceNow_2 ⟨Nat.zero_le _, Nat.zero_le _⟩ (fun H locs hW => ?_)
  refine lv_aload_n hx hb dX9_graceNow_5 rfl (lv_at hl 0 rfl) ?_
  refine rg_X9_13 X hW dX9_graceNow_6 ?_
  obtain ⟨q9, e9, h⟩ := lb_bind h
  refine rc_X9_129 X hW (show lb_ar 55 = 60 + 1 from rfl) e9 ⟨⟨rfl, rfl⟩, Nat.le_of_ble_eq_true rfl, Nat.le_of_ble_eq_true rfl⟩ hl.1 (Nat.le_of_ble_eq_true rfl) dX9_graceNow_9 ⟨Nat.zero_le _, Nat.zero_le _⟩ (fun H locs hW => ?_)
  obtain rfl := Option.some.inj h
  exact lb_iret X hW dX9_graceNow_12
