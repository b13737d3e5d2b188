theorem rc_X4_49 {p : Program} {l : Launch} {e : Env} {R : Room} {s : State} {m : MethodId} {args : Array Value} {below : List Frame} {meth : Method} {c : Code} {H : Heap} {locs : List Loc} {cells slots : Nat} {Q : State → Prop} {cc : ByteArray} {pc nL : Nat} {ls : Array Slot} {rest : List Value} {G : lb_G} {σ : lb_Mem} {ret : Option FieldType} (X : lb_C G p s m args meth c cc nL RX4 ret) (hW : lb_W G s σ H locs) {b0 : Nat} (hb0 : lb_V b0) {x1 : Int32} {qr : (Int32 × lb_Mem)} (h : f_X7_addPerson b0 x1 σ = some qr) (hR : lb_room rmX7_addPerson R 2) (hls : ls.size = nL) (hrest : (rest.map fun v => v.category).sum ≤ 8) (d : decode cc pc = .ok (.invokevirtual 49, 3)) (hcap : cells ≤ R.cells ∧ slots ≤ R.slots) (kk : ∀ (H1 : Heap) (locs1 : List Loc), lb_W G s qr.2 H1 locs1 → W p l e R s m args below meth c H1 locs1 cells slots Q (F0 m (pc + 3) ls (.int qr.1 :: rest))) : W p l e R s m args below meth c H locs cells slots Q (F0 m pc ls (.int x1 :: .ref (lb_ad G b0) :: rest)) :=
  lb_goI hW (lb_runV (As := [.int x1]) X hW (m_X7_addPerson l G σ hb0 x1 qr h) (n := 1) ⟨qw_353, qw_44, qw_356, by decide +kernel⟩ hR qw_354 qw_355 (lb_isV hb0) rfl hls hrest d hcap) kk
theorem rc_X4_52 {p : Program} {l : Launch} {e : Env} {R : Room} {s : State} {m : MethodId} {args : Array Value} {below : List Frame} {meth : Method} {c : Code} {H : Heap} {locs : List Loc} {cells slots : Nat} {Q : State → Prop} {cc : ByteArray} {pc nL : Nat} {ls : Array Slot} {rest : List Value} {G : lb_G} {σ : lb_Mem} {ret : Option FieldType} (X : lb_C G p s m args meth c cc nL RX4 ret) (hW : lb_W G s σ H locs) {b0 : Nat} (hb0 : lb_V b0) {x1 : Int32} {x2 : Int32} {x3 : Int32} {x4 : Int32} {x5 : Int32} {x6 : Int32} {qr : (Int32 × lb_Mem)} (h : f_X7_addPot b0 x1 x2 x3 x4 x5 x6 σ = some qr) (hR : lb_room rmX7_addPot R 8) (hls : ls.size = nL) (hrest : (rest.map fun v => v.category).sum ≤ 8) (d : decode cc pc = .ok (.invokevirtual 52, 3)) (hcap : cells ≤ R.cells ∧ slots ≤ R.slots) (kk : ∀ (H1 : Heap) (locs1 : List Loc), lb_W G s qr.2 H1 locs1 → W p l e R s m args below meth c H1 locs1 cells slots Q (F0 m (pc + 3) ls (.int qr.1 :: rest))) : W p l e R s m args below meth c H locs cells slots Q (F0 m pc ls (.int x6 :: .int x5 :: .int x4 :: .int x3 :: .int x2 :: .int x1 :: .ref (lb_ad G b0) :: rest)) :=
  lb_goI hW (lb_runV (As := [.int x1, .int x2, .int x3, .int x4, .int x5, .int x6]) X hW (m_X7_addPot l G σ hb0 x1 x2 x3 x4 x5 x6 qr h) (n := 6) ⟨qw_360, qw_44, qw_363, by decide +kernel⟩ hR qw_361 qw_362 (lb_isV hb0) rfl hls hrest d hcap) kk
theorem rc_X4_56 {p : Program} {l : Launch} {e : Env} {R : Room} {s : State} {m : MethodId} {args : Array Value} {below : List Frame} {meth : Method} {c : Code} {H : Heap} {locs : List Loc} {cells slots : Nat} {Q : State → Prop} {cc : ByteArray} {pc nL : Nat} {ls : Array Slot} {rest : List Value} {G : lb_G} {σ : lb_Mem} {ret : Option FieldType} (X : lb_C G p s m args meth c cc nL RX4 ret) (hW : lb_W G s σ H locs) {b0 : Nat} (hb0 : lb_V b0) {x1 : Int32} {x2 : Int32} {qr : (Int32 × lb_Mem)} (h : f_X7_setLabel b0 x1 x2 σ = some qr) (hR : lb_room rmX7_setLabel R 3) (hls : ls.size = nL) (hrest : (rest.map fun v => v.category).sum ≤ 8) (d : decode cc pc = .ok (.invokevirtual 56, 3)) (hcap : cells ≤ R.cells ∧ slots ≤ R.slots) (kk : ∀ (H1 : Heap) (locs1 : List Loc), lb_W G s qr.2 H1 locs1 → W p l e R s m args below meth c H1 locs1 cells slots Q (F0 m (pc + 3) ls (.int qr.1 :: rest))) : W p l e R s m args below meth c H locs cells slots Q (F0 m pc ls (.int x2 :: .int x1 :: .ref (lb_ad G b0) :: rest)) :=
  lb_goI hW (lb_runV (As := [.int x1, .int x2]) X hW (m_X7_setLabel l G σ hb0 x1 x2 qr h) (n := 2) ⟨qw_375, qw_44, qw_378, by decide +kernel⟩ hR qw_376 qw_377 (lb_isV hb0) rfl hls hrest d hcap) kk
theorem rc_X4_60 {p : Program} {l : Launch} {e : Env} {R : Room} {s : State} {m : MethodId} {args : Array Value} {below : List Frame} {meth : Method} {c : Code} {H : Heap} {locs : List Loc} {cells slots : Nat} {Q : State → Prop} {cc : ByteArray} {pc nL : Nat} {ls : Array Slot} {rest : List Value} {G : lb_G} {σ : lb_Mem} {ret : Option FieldType} (X : lb_C G p s m args meth c cc nL RX4 ret) (hW : lb_W G s σ H locs) {b0 : Nat} (hb0 : lb_V b0) {x1 : Int32} {x2 : Int32} {qr : (Int32 × lb_Mem)} (h : f_X7_setOwner b0 x1 x2 σ = some qr) (hR : lb_room rmX7_setOwner R 3) (hls : ls.size = nL) (hrest : (rest.map fun v => v.category).sum ≤ 8) (d : decode cc pc = .ok (.invokevirtual 60, 3)) (hcap : cells ≤ R.cells ∧ slots ≤ R.slots) (kk : ∀ (H1 : Heap) (locs1 : List Loc), lb_W G s qr.2 H1 locs1 → W p l e R s m args below meth c H1 locs1 cells slots Q (F0 m (pc + 3) ls (.int qr.1 :: rest))) : W p l e R s m args below meth c H locs cells slots Q (F0 m pc ls (.int x2 :: .int x1 :: .ref (lb_ad G b0) :: rest)) :=
  lb_goI hW (lb_runV (As := [.int x1, .int x2]) X hW (m_X7_setOwner l G σ hb0 x1 x2 qr h) (n := 2) ⟨qw_383, qw_44, qw_386, by decide +kernel⟩ hR qw_384 qw_385 (lb_isV hb0) rfl hls hrest d hcap) kk
theorem rc_X4_63 {p : Program} {l : Launch} {e : Env} {R : Room} {s : State} {m : MethodId} {args : Array Value} {below : List Frame} {meth : Method} {c : Code} {H : Heap} {locs : List Loc} {cells slots : Nat} {Q : State → Prop} {cc : ByteArray} {pc nL : Nat} {ls : Array Slot} {rest : List Value} {G : lb_G} {σ : lb_Mem} {ret : Option FieldType} (X : lb_C G p s m args meth c cc nL RX4 ret) (hW : lb_W G s σ H locs) {b0 : Nat} (hb0 : lb_V b0) {x1 : Int32} {x2 : Int32} {qr : (Int32 × lb_Mem)} (h : f_X7_setLikes b0 x1 x2 σ = some qr) (hR : lb_room rmX7_setLikes R 3) (hls : ls.size = nL) (hrest : (rest.map fun v => v.category).sum ≤ 8) (d : decode cc pc = .ok (.invokevirtual 63, 3)) (hcap : cells ≤ R.cells ∧ slots ≤ R.slots) (kk : ∀ (H1 : Heap) (locs1 : List Loc), lb_W G s qr.2 H1 locs1 → W p l e R s m args below meth c H1 locs1 cells slots Q (F0 m (pc + 3) ls (.int qr.1 :: rest))) : W p l e R s m args below meth c H locs cells slots Q (F0 m pc ls (.int x2 :: .int x1 :: .ref (lb_ad G b0) :: rest)) :=
  lb_goI hW (lb_runV (As := [.int x1, .int x2]) X hW (m_X7_setLikes l G σ hb0 x1 x2 qr h) (n := 2) ⟨qw_387, qw_44, qw_390, by decide +kernel⟩ hR qw_388 qw_389 (lb_isV hb0) rfl hls hrest d hcap) kk
theorem rc_X4_66 {p : Program} {l : Launch} {e : Env} {R : Room} {s : State} {m : MethodId} {args : Array Value} {below : List Frame} {meth : Method} {c : Code} {H : Heap} {locs : List Loc} {cells slots : Nat} {Q : State → Prop} {cc : ByteArray} {pc nL : Nat} {ls : Array Slot} {rest : List Value} {G : lb_G} {σ : lb_Mem} {ret : Option FieldType} (X : lb_C G p s m args meth c cc nL RX4 ret) (hW : lb_W G s σ H locs) {b0 : Nat} (hb0 : lb_V b0) {x1 : Int32} {x2 : Int32} {qr : (Int32 × lb_Mem)} (h : f_X7_setFull b0 x1 x2 σ = some qr) (hR : lb_room rmX7_setFull R 3) (hls : ls.size = nL) (hrest : (rest.map fun v => v.category).sum ≤ 8) (d : decode cc pc = .ok (.invokevirtual 66, 3)) (hcap : cells ≤ R.cells ∧ slots ≤ R.slots) (kk : ∀ (H1 : Heap) (locs1 : List Loc), lb_W G s qr.2 H1 locs1 → W p l e R s m args below meth c H1 locs1 cells slots Q (F0 m (pc + 3) ls (.int qr.1 :: rest))) : W p l e R s m args below meth c H locs cells slots Q (F0 m pc ls (.int x2 :: .int x1 :: .ref (lb_ad G b0) :: rest)) :=
  lb_goI hW (lb_runV (As := [.int x1, .int x2]) X hW (m_X7_setFull l G σ hb0 x1 x2 qr h) (n := 2) ⟨qw_391, qw_44, qw_394, by decide +kernel⟩ hR qw_392 qw_393 (lb_isV hb0) rfl hls hrest d hcap) kk
theorem rc_X4_69 {p : Program} {l : Launch} {e : Env} {R : Room} {s : State} {m : MethodId} {args : Array Value} {below : List Frame} {meth : Method} {c : Code} {H : Heap} {locs : List Loc} {cells slots : Nat} {Q : State → Prop} {cc : ByteArray} {pc nL : Nat} {ls : Array Slot} {rest : List Value} {G : lb_G} {σ : lb_Mem} {ret : Option FieldType} (X : lb_C G p s m args meth c cc nL RX4 ret) (hW : lb_W G s σ H locs) {b0 : Nat} (hb0 : lb_V b0) (x1 : Int32) (hR : lb_room rmX7_canGoOn R 2) (hls : ls.size = nL) (hrest : (rest.map fun v => v.category).sum ≤ 8) (d : decode cc pc = .ok (.invokevirtual 69, 3)) (hcap : cells ≤ R.cells ∧ slots ≤ R.slots) (kk : ∀ (H1 : Heap) (locs1 : List Loc), lb_W G s σ H1 locs1 → W p l e R s m args below meth c H1 locs1 cells slots Q (F0 m (pc + 3) ls (.int (f_X7_canGoOn σ b0 x1) :: rest))) : W p l e R s m args below meth c H locs cells slots Q (F0 m pc ls (.int x1 :: .ref (lb_ad G b0) :: rest)) :=
  lb_goI hW (lb_runV (As := [.int x1]) X hW (m_X7_canGoOn l G σ hb0 x1 _ rfl) (n := 1) ⟨qw_395, qw_44, qw_398, by decide +kernel⟩ hR qw_396 qw_397 (lb_isV hb0) rfl hls hrest d hcap) kk
theorem rc_X4_72 {p : Program} {l : Launch} {e : Env} {R : Room} {s : State} {m : MethodId} {args : Array Value} {below : List Frame} {meth : Method} {c : Code} {H : Heap} {locs : List Loc} {cells slots : Nat} {Q : State → Prop} {cc : ByteArray} {pc nL : Nat} {ls : Array Slot} {rest : List Value} {G : lb_G} {σ : lb_Mem} {ret : Option FieldType} (X : lb_C G p s m args meth c cc nL RX4 ret) (hW : lb_W G s σ H locs) {b0 : Nat} (hb0 : lb_V b0) {x1 : Int32} {qr : lb_Mem} (h : f_X7_pass b0 x1 σ = some qr) (hR : lb_room rmX7_pass R 3) (hls : ls.size = nL) (hrest : (rest.map fun v => v.category).sum ≤ 8) (d : decode cc pc = .ok (.invokevirtual 72, 3)) (hcap : cells ≤ R.cells ∧ slots ≤ R.slots) (kk : ∀ (H1 : Heap) (locs1 : List Loc), lb_W G s qr H1 locs1 → W p l e R s m args below meth c H1 locs1 cells slots Q (F0 m (pc + 3) ls rest)) : W p l e R s m args below meth c H locs cells slots Q (F0 m pc ls (.int x1 :: .ref (lb_ad G b0) :: rest)) :=
  lb_goV hW (lb_runV (As := [.int x1]) X hW (m_X7_pass l G σ hb0 x1 qr h) (n := 1) ⟨qw_399, qw_44, qw_402, by decide +kernel⟩ hR qw_400 qw_401 (lb_isV hb0) rfl hls hrest d hcap) kk
abbrev rmX4_isObeyed : Room := { frames := 6, cells := 0, slots := 0, locals := 141 }
def f_X4_isObeyed_226 (b2 : Nat) (x6 : Int32) (σ : lb_Mem) (y1 : Int32) : Option (Int32 × lb_Mem) := (f_X7_pass b2 y1 σ).bind (fun s226 => lb_chk (lb_isB x6) (some (x6, s226)))
set_option maxRecDepth 20000 in
set_option maxHeartbeats 4000000 in
theorem w_X4_isObeyed_226 {p : Program} {l : Launch} {e : Env} {s : State} {m : MethodId} {args : Array Value} {below : List Frame} {meth : Method} {c : Code} {G : lb_G} {b2 : Nat} {qr : (Int32 × lb_Mem)} (X : lb_C G p s m args meth c cX4_isObeyed 7 RX4 (some .boolean)) (hb2 : lb_V b2) : ∀ (x6 : Int32) (σ : lb_Mem) (y1 : Int32) (H : Heap) (locs : List Loc) (ls : Array Slot), f_X4_isObeyed_226 b2 x6 σ y1 = some qr → lb_W G s σ H locs → lv_has ls 7 [(6, .int x6)] → W p l e rmX4_isObeyed s m args below meth c H locs 0 0 (MQ below (lb_QI G qr.1 qr.2) args s 0 0 (lb_A G)) (F0 m 226 ls [.int y1, .ref (lb_ad G b2)]) := by
  have hx := X.1
  have hb := X.2.1
  intro x6 σ y1 H locs ls h hW hl
  have h : ((f_X7_pass b2 y1 σ).bind (fun s226 => lb_chk (lb_isB x6) (some (x6, s226)))) = some qr := h
  obtain ⟨s226, e226, h⟩ := lb_bind h
  refine rc_X4_72 X hW hb2 e226 ⟨⟨rfl, rfl⟩, Nat.le_of_ble_eq_true rfl, Nat.le_of_ble_eq_true rfl⟩ hl.1 (Nat.le_of_ble_eq_true rfl) dX4_isObeyed_226 ⟨Nat.zero_le _, Nat.zero_le _⟩ (fun H locs hW => ?_)
  refine lv_iload hx hb dX4_isObeyed_229 (lv_at hl 0 rfl) ?_
  obtain ⟨z231, h⟩ := lb_chk_b h
  obtain rfl := Option.some.inj h
  exact lb_zret X hW z231 dX4_isObeyed_231
def f_X4_isObeyed (b2 : Nat) (x1 : Int32) (σ : lb_Mem) : Option (Int32 × lb_Mem) := (f_X4_digitAt σ (x1 + (1 : Int32))).bind (fun q4 => (f_X4_digitAt σ (x1 + (2 : Int32))).bind (fun q12 => (f_X4_letterAt σ x1).bind (fun q19 => if q19 = 102 then (f_X7_setFull b2 q4 q12 σ).bind (fun q193 => lb_chk (lb_isB q193.1) (some (q193.1, q193.2))) else if q19 = 103 then (f_X7_setOwner b2 q4 q12 σ).bind (fun q177 => lb_chk (lb_isB q177.1) (some (q177.1, q177.2))) else if q19 = 106 then (f_X4_kindAt σ (x1 + (1 : Int32))).bind (fun q127 => (f_X4_digitAt σ (x1 + (3 : Int32))).bind (fun q136 => (f_X4_digitAt σ (x1 + (4 : Int32))).bind (fun q143 => (f_X4_digitAt σ (x1 + (5 : Int32))).bind (fun q150 => (f_X4_digitAt σ (x1 + (6 : Int32))).bind (fun q158 => (f_X7_addPot b2 q127 q12 q136 q143 q150 q158 σ).bind (fun q161 => lb_chk (lb_isB q161.1) (some (q161.1, q161.2)))))))) else if q19 = 107 then (f_X7_setLikes b2 q4 q12 σ).bind (fun q185 => lb_chk (lb_isB q185.1) (some (q185.1, q185.2))) else if q19 = 108 then (f_X7_setLabel b2 q4 q12 σ).bind (fun q169 => lb_chk (lb_isB q169.1) (some (q169.1, q169.2))) else if q19 = 112 then (f_X7_addPerson b2 q4 σ).bind (fun q118 => lb_chk (lb_isB q118.1) (some (q118.1, q118.2))) else if q19 = 121 then lb_let ((((10 : Int32) * q4) + q12)) (fun v204 : Int32 => lb_let ((f_X7_canGoOn σ b2 v204)) (fun v212 : Int32 => if v212 = 0 then f_X4_isObeyed_226 b2 v212 σ (0 : Int32) else f_X4_isObeyed_226 b2 v212 σ v204)) else some ((0 : Int32), σ))))
set_option maxRecDepth 20000 in
set_option maxHeartbeats 4000000 in
theorem m_X4_isObeyed (l : Launch) (G : lb_G) (σ : lb_Mem) {b2 : Nat} (hb2 : lb_V b2) (x1 : Int32) (qr : (Int32 × lb_Mem)) (h : f_X4_isObeyed b2 x1 σ = some qr) : lb_M l yX4_isObeyed cX4_isObeyed 7 (some .boolean) rmX4_isObeyed [.ref (lb_ad G 49), .int x1, .ref (lb_ad G b2)] G σ (lb_QI G qr.1 qr.2) := by
  refine lb_start RX4 (by decide +kernel) rfl (Nat.le_of_ble_eq_true rfl) (fun p e s m below meth c X hW ls hl => ?_)
  have hx := X.1
  have hb := X.2.1
  have hl : lv_has ls 7 [(0, .ref (lb_ad G 49)), (1, .int x1), (2, .ref (lb_ad G b2))] := hl
  have h : ((f_X4_digitAt σ (x1 + (1 : Int32))).bind (fun q4 => (f_X4_digitAt σ (x1 + (2 : Int32))).bind (fun q12 => (f_X4_letterAt σ x1).bind (fun q19 => if q19 = 102 then (f_X7_setFull b2 q4 q12 σ).bind (fun q193 => lb_chk (lb_isB q193.1) (some (q193.1, q193.2))) else if q19 = 103 then (f_X7_setOwner b2 q4 q12 σ).bind (fun q177 => lb_chk (lb_isB q177.1) (some (q177.1, q177.2))) else if q19 = 106 then (f_X4_kindAt σ (x1 + (1 : Int32))).bind (fun q127 => (f_X4_digitAt σ (x1 + (3 : Int32))).bind (fun q136 => (f_X4_digitAt σ (x1 + (4 : Int32))).bind (fun q143 => (f_X4_digitAt σ (x1 + (5 : Int32))).bind (fun q150 => (f_X4_digitAt σ (x1 + (6 : Int32))).bind (fun q158 => (f_X7_addPot b2 q127 q12 q136 q143 q150 q158 σ).bind (fun q161 => lb_chk (lb_isB q161.1) (some (q161.1, q161.2)))))))) else if q19 = 107 then (f_X7_setLikes b2 q4 q12 σ).bind (fun q185 => lb_chk (lb_isB q185.1) (some (q185.1, q185.2))) else if q19 = 108 then (f_X7_setLabel b2 q4 q12 σ).bind (fun q169 => lb_chk (lb_isB q169.1) (some (q169.1, q169.2))) else if q19 = 112 then (f_X7_addPerson b2 q4 σ).bind (fun q118 => lb_chk (lb_isB q118.1) (some (q118.1, q118.2))) else if q19 = 121 then lb_let ((((10 : Int32) * q4) + q12)) (fun v204 : Int32 => lb_let ((f_X7_canGoOn σ b2 v204)) (fun v212 : Int32 => if v212 = 0 then f_X4_isObeyed_226 b2 v212 σ (0 : Int32) else f_X4_isObeyed_226 b2 v212 σ v204)) else some ((0 : Int32), σ))))) = some qr := h
  skip
  refine lv_aload_n hx hb dX4_isObeyed_0 rfl (lv_at hl 0 rfl) ?_
  refine lv_iload_n hx hb dX4_isObeyed_1 rfl (lv_at hl 1 rfl) ?_
  refine lv_iconst (v := 1) hx hb dX4_isObeyed_2 rfl ?_
  refine lv_iadd hx hb dX4_isObeyed_3 ?_
  obtain ⟨q4, e4, h⟩ := lb_bind h
  refine rc_X4_40 X hW e4 ⟨⟨rfl, rfl⟩, Nat.le_of_ble_eq_true rfl, Nat.le_of_ble_eq_true rfl⟩ hl.1 (Nat.le_of_ble_eq_true rfl) dX4_isObeyed_4 ⟨Nat.zero_le _, Nat.zero_le _⟩ (fun H locs hW => ?_)
  refine lv_istore_n (lv' := [(3, .int q4), (0, .ref (lb_ad G 49)), (1, .int x1), (2, .ref (lb_ad G b2))]) hx hb dX4_isObeyed_7 rfl hl (by decide) rfl (fun ls hl => ?_)
  refine lv_aload_n hx hb dX4_isObeyed_8 rfl (lv_at hl 1 rfl) ?_
  refine lv_iload_n hx hb dX4_isObeyed_9 rfl (lv_at hl 2 rfl) ?_
  refine lv_iconst (v := 2) hx hb dX4_isObeyed_10 rfl ?_
  refine lv_iadd hx hb dX4_isObeyed_11 ?_
  obtain ⟨q12, e12, h⟩ := lb_bind h
  refine rc_X4_40 X hW e12 ⟨⟨rfl, rfl⟩, Nat.le_of_ble_eq_true rfl, Nat.le_of_ble_eq_true rfl⟩ hl.1 (Nat.le_of_ble_eq_true rfl) dX4_isObeyed_12 ⟨Nat.zero_le _, Nat.zero_le _⟩ (fun H locs hW => ?_)
  refine lv_istore (lv' := [(4, .int q12), (3, .int q4), (0, .ref (lb_ad G 49)), (1, .int x1), (2, .ref (lb_ad G b2))]) hx hb dX4_isObeyed_15 hl (by decide) rfl (fun ls hl => ?_)
  refine lv_aload_n hx hb dX4_isObeyed_17 rfl (lv_at hl 2 rfl) ?_
  refine lv_iload_n hx hb dX4_isObeyed_18 rfl (lv_at hl 3 rfl) ?_
  obtain ⟨q19, e19, h⟩ := lb_bind h
  refine rc_X4_19 X hW e19 ⟨⟨rfl, rfl⟩, Nat.le_of_ble_eq_true rfl, Nat.le_of_ble_eq_true rfl⟩ hl.1 (Nat.le_of_ble_eq_true rfl) dX4_isObeyed_19 ⟨Nat.zero_le _, Nat.zero_le _⟩ (fun H locs hW => ?_)
  by_cases c22_102 : q19 = 102
  · have h := (if_pos c22_102).symm.trans h
    refine lv_tableIn (tgt := 189) hx hb dX4_isObeyed_22 (by rw [c22_102]; decide) (by rw [c22_102]; decide) (off := 167) (by rw [c22_102]; rfl) (by decide) ?_
    refine lv_aload_n hx hb dX4_isObeyed_189 rfl (lv_at hl 4 rfl) ?_
    refine lv_iload_n hx hb dX4_isObeyed_190 rfl (lv_at hl 1 rfl) ?_
    refine lv_iload hx hb dX4_isObeyed_191 (lv_at hl 0 rfl) ?_
    obtain ⟨q193, e193, h⟩ := lb_bind h
    refine rc_X4_66 X hW hb2 e193 ⟨⟨rfl, rfl⟩, Nat.le_of_ble_eq_true rfl, Nat.le_of_ble_eq_true rfl⟩ hl.1 (Nat.le_of_ble_eq_true rfl) dX4_isObeyed_193 ⟨Nat.zero_le _, Nat.zero_le _⟩ (fun H locs hW => ?_)
    obtain ⟨z196, h⟩ := lb_chk_b h
    obtain rfl := Option.some.inj h
    exact lb_zret X hW z196 dX4_isObeyed_196
  have h := (if_neg c22_102).symm.trans h
  by_cases c22_103 : q19 = 103
  · have h := (if_pos c22_103).symm.trans h
    refine lv_tableIn (tgt := 173) hx hb dX4_isObeyed_22 (by rw [c22_103]; decide) (by rw [c22_103]; decide) (off := 151) (by rw [c22_103]; rfl) (by decide) ?_
    refine lv_aload_n hx hb dX4_isObeyed_173 rfl (lv_at hl 4 rfl) ?_
    refine lv_iload_n hx hb dX4_isObeyed_174 rfl (lv_at hl 1 rfl) ?_
    refine lv_iload hx hb dX4_isObeyed_175 (lv_at hl 0 rfl) ?_
    obtain ⟨q177, e177, h⟩ := lb_bind h
    refine rc_X4_60 X hW hb2 e177 ⟨⟨rfl, rfl⟩, Nat.le_of_ble_eq_true rfl, Nat.le_of_ble_eq_true rfl⟩ hl.1 (Nat.le_of_ble_eq_true rfl) dX4_isObeyed_177 ⟨Nat.zero_le _, Nat.zero_le _⟩ (fun H locs hW => ?_)
    obtain ⟨z180, h⟩ := lb_chk_b h
    obtain rfl := Option.some.inj h
    exact lb_zret X hW z180 dX4_isObeyed_180
  have h := (if_neg c22_103).symm.trans h
  by_cases c22_106 : q19 = 106
  · have h := (if_pos c22_106).symm.trans h
    refine lv_tableIn (tgt := 122) hx hb dX4_isObeyed_22 (by rw [c22_106]; decide) (by rw [c22_106]; decide) (off := 100) (by rw [c22_106]; rfl) (by decide) ?_
    refine lv_aload_n hx hb dX4_isObeyed_122 rfl (lv_at hl 4 rfl) ?_
    refine lv_aload_n hx hb dX4_isObeyed_123 rfl (lv_at hl 2 rfl) ?_
    refine lv_iload_n hx hb dX4_isObeyed_124 rfl (lv_at hl 3 rfl) ?_
    refine lv_iconst (v := 1) hx hb dX4_isObeyed_125 rfl ?_
    refine lv_iadd hx hb dX4_isObeyed_126 ?_
    obtain ⟨q127, e127, h⟩ := lb_bind h
    refine rc_X4_37 X hW e127 ⟨⟨rfl, rfl⟩, Nat.le_of_ble_eq_true rfl, Nat.le_of_ble_eq_true rfl⟩ hl.1 (Nat.le_of_ble_eq_true rfl) dX4_isObeyed_127 ⟨Nat.zero_le _, Nat.zero_le _⟩ (fun H locs hW => ?_)
    refine lv_iload hx hb dX4_isObeyed_130 (lv_at hl 0 rfl) ?_
    refine lv_aload_n hx hb dX4_isObeyed_132 rfl (lv_at hl 2 rfl) ?_
    refine lv_iload_n hx hb dX4_isObeyed_133 rfl (lv_at hl 3 rfl) ?_
    refine lv_iconst (v := 3) hx hb dX4_isObeyed_134 rfl ?_
    refine lv_iadd hx hb dX4_isObeyed_135 ?_
    obtain ⟨q136, e136, h⟩ := lb_bind h
    refine rc_X4_40 X hW e136 ⟨⟨rfl, rfl⟩, Nat.le_of_ble_eq_true rfl, Nat.le_of_ble_eq_true rfl⟩ hl.1 (Nat.le_of_ble_eq_true rfl) dX4_isObeyed_136 ⟨Nat.zero_le _, Nat.zero_le _⟩ (fun H locs hW => ?_)
    refine lv_aload_n hx hb dX4_isObeyed_139 rfl (lv_at hl 2 rfl) ?_
    refine lv_iload_n hx hb dX4_isObeyed_140 rfl (lv_at hl 3 rfl) ?_
    refine lv_iconst (v := 4) hx hb dX4_isObeyed_141 rfl ?_
    refine lv_iadd hx hb dX4_isObeyed_142 ?_
    obtain ⟨q143, e143, h⟩ := lb_bind h
    refine rc_X4_40 X hW e143 ⟨⟨rfl, rfl⟩, Nat.le_of_ble_eq_true rfl, Nat.le_of_ble_eq_true rfl⟩ hl.1 (Nat.le_of_ble_eq_true rfl) dX4_isObeyed_143 ⟨Nat.zero_le _, Nat.zero_le _⟩ (fun H locs hW => ?_)
    refine lv_aload_n hx hb dX4_isObeyed_146 rfl (lv_at hl 2 rfl) ?_
    refine lv_iload_n hx hb dX4_isObeyed_147 rfl (lv_at hl 3 rfl) ?_
    refine lv_iconst (v := 5) hx hb dX4_isObeyed_148 rfl ?_
    refine lv_iadd hx hb dX4_isObeyed_149 ?_
    obtain ⟨q150, e150, h⟩ := lb_bind h
    refine rc_X4_40 X hW e150 ⟨⟨rfl, rfl⟩, Nat.le_of_ble_eq_true rfl, Nat.le_of_ble_eq_true rfl⟩ hl.1 (Nat.le_of_ble_eq_true rfl) dX4_isObeyed_150 ⟨Nat.zero_le _, Nat.zero_le _⟩ (fun H locs hW => ?_)
    refine lv_aload_n hx hb dX4_isObeyed_153 rfl (lv_at hl 2 rfl) ?_
    refine lv_iload_n hx hb dX4_isObeyed_154 rfl (lv_at hl 3 rfl) ?_
    refine lv_bipush (v := 6) hx hb dX4_isObeyed_155 rfl ?_
    refine lv_iadd hx hb dX4_isObeyed_157 ?_
    obtain ⟨q158, e158, h⟩ := lb_bind h
    refine rc_X4_40 X hW e158 ⟨⟨rfl, rfl⟩, Nat.le_of_ble_eq_true rfl, Nat.le_of_ble_eq_true rfl⟩ hl.1 (Nat.le_of_ble_eq_true rfl) dX4_isObeyed_158 ⟨Nat.zero_le _, Nat.zero_le _⟩ (fun H locs hW => ?_)
    obtain ⟨q161, e161, h⟩ := lb_bind h
    refine rc_X4_52 X hW hb2 e161 ⟨⟨rfl, rfl⟩, Nat.le_of_ble_eq_true rfl, Nat.le_of_ble_eq_true rfl⟩ hl.1 (Nat.le_of_ble_eq_true rfl) dX4_isObeyed_161 ⟨Nat.zero_le _, Nat.zero_le _⟩ (fun H locs hW => ?_)
    obtain ⟨z164, h⟩ := lb_chk_b h
    obtain rfl := Option.some.inj h
    exact lb_zret X hW z164 dX4_isObeyed_164
  have h := (if_neg c22_106).symm.trans h
  by_cases c22_107 : q19 = 107
  · have h := (if_pos c22_107).symm.trans h
    refine lv_tableIn (tgt := 181) hx hb dX4_isObeyed_22 (by rw [c22_107]; decide) (by rw [c22_107]; decide) (off := 159) (by rw [c22_107]; rfl) (by decide) ?_
    refine lv_aload_n hx hb dX4_isObeyed_181 rfl (lv_at hl 4 rfl) ?_
    refine lv_iload_n hx hb dX4_isObeyed_182 rfl (lv_at hl 1 rfl) ?_
    refine lv_iload hx hb dX4_isObeyed_183 (lv_at hl 0 rfl) ?_
    obtain ⟨q185, e185, h⟩ := lb_bind h
    refine rc_X4_63 X hW hb2 e185 ⟨⟨rfl, rfl⟩, Nat.le_of_ble_eq_true rfl, Nat.le_of_ble_eq_true rfl⟩ hl.1 (Nat.le_of_ble_eq_true rfl) dX4_isObeyed_185 ⟨Nat.zero_le _, Nat.zero_le _⟩ (fun H locs hW => ?_)
    obtain ⟨z188, h⟩ := lb_chk_b h
    obtain rfl := Option.some.inj h
    exact lb_zret X hW z188 dX4_isObeyed_188
  have h := (if_neg c22_107).symm.trans h
  by_cases c22_108 : q19 = 108
  · have h := (if_pos c22_108).symm.trans h
    refine lv_tableIn (tgt := 165) hx hb dX4_isObeyed_22 (by rw [c22_108]; decide) (by rw [c22_108]; decide) (off := 143) (by rw [c22_108]; rfl) (by decide) ?_
    refine lv_aload_n hx hb dX4_isObeyed_165 rfl (lv_at hl 4 rfl) ?_
    refine lv_iload_n hx hb dX4_isObeyed_166 rfl (lv_at hl 1 rfl) ?_
    refine lv_iload hx hb dX4_isObeyed_167 (lv_at hl 0 rfl) ?_
    obtain ⟨q169, e169, h⟩ := lb_bind h
    refine rc_X4_56 X hW hb2 e169 ⟨⟨rfl, rfl⟩, Nat.le_of_ble_eq_true rfl, Nat.le_of_ble_eq_true rfl⟩ hl.1 (Nat.le_of_ble_eq_true rfl) dX4_isObeyed_169 ⟨Nat.zero_le _, Nat.zero_le _⟩ (fun H locs hW => ?_)
    obtain ⟨z172, h⟩ := lb_chk_b h
    obtain rfl := Option.some.inj h
    exact lb_zret X hW z172 dX4_isObeyed_172
  have h := (if_neg c22_108).symm.trans h
  by_cases c22_112 : q19 = 112
  · have h := (if_pos c22_112).symm.trans h
    refine lv_tableIn (tgt := 116) hx hb dX4_isObeyed_22 (by rw [c22_112]; decide) (by rw [c22_112]; decide) (off := 94) (by rw [c22_112]; rfl) (by decide) ?_
    refine lv_aload_n hx hb dX4_isObeyed_116 rfl (lv_at hl 4 rfl) ?_
    refine lv_iload_n hx hb dX4_isObeyed_117 rfl (lv_at hl 1 rfl) ?_
    obtain ⟨q118, e118, h⟩ := lb_bind h
    refine rc_X4_49 X hW hb2 e118 ⟨⟨rfl, rfl⟩, Nat.le_of_ble_eq_true rfl, Nat.le_of_ble_eq_true rfl⟩ hl.1 (Nat.le_of_ble_eq_true rfl) dX4_isObeyed_118 ⟨Nat.zero_le _, Nat.zero_le _⟩ (fun H locs hW => ?_)
    obtain ⟨z121, h⟩ := lb_chk_b h
    obtain rfl := Option.some.inj h
    exact lb_zret X hW z121 dX4_isObeyed_121
  have h := (if_neg c22_112).symm.trans h
  by_cases c22_121 : q19 = 121
  · have h := (if_pos c22_121).symm.trans h
    refine lv_tableIn (tgt := 197) hx hb dX4_isObeyed_22 (by rw [c22_121]; decide) (by rw [c22_121]; decide) (off := 175) (by rw [c22_121]; rfl) (by decide) ?_
    refine lv_bipush (v := 10) hx hb dX4_isObeyed_197 rfl ?_
    refine lv_iload_n hx hb dX4_isObeyed_199 rfl (lv_at hl 1 rfl) ?_
    refine lv_imul hx hb dX4_isObeyed_200 ?_
    refine lv_iload hx hb dX4_isObeyed_201 (lv_at hl 0 rfl) ?_
    refine lv_iadd hx hb dX4_isObeyed_203 ?_
    refine lv_topi (fun v204 e204 => ?_)
    have h := lb_letI e204 h
    refine lv_istore (lv' := [(5, .int v204), (4, .int q12), (3, .int q4), (0, .ref (lb_ad G 49)), (1, .int x1), (2, .ref (lb_ad G b2))]) hx hb dX4_isObeyed_204 hl (by decide) rfl (fun ls hl => ?_)
    refine lv_aload_n hx hb dX4_isObeyed_206 rfl (lv_at hl 5 rfl) ?_
    refine lv_iload hx hb dX4_isObeyed_207 (lv_at hl 0 rfl) ?_
    refine rc_X4_69 X hW hb2 v204 ⟨⟨rfl, rfl⟩, Nat.le_of_ble_eq_true rfl, Nat.le_of_ble_eq_true rfl⟩ hl.1 (Nat.le_of_ble_eq_true rfl) dX4_isObeyed_209 ⟨Nat.zero_le _, Nat.zero_le _⟩ (fun H locs hW => ?_)
    refine lv_topi (fun v212 e212 => ?_)
    have h := lb_letI e212 h
    refine lv_istore (lv' := [(6, .int v212), (5, .int v204), (4, .int q12), (3, .int q4), (0, .ref (lb_ad G 49)), (1, .int x1), (2, .ref (lb_ad G b2))]) hx hb dX4_isObeyed_212 hl (by decide) rfl (fun ls hl => ?_)
    refine lv_aload_n hx hb dX4_isObeyed_214 rfl (lv_at hl 6 rfl) ?_
    refine lv_iload hx hb dX4_isObeyed_215 (lv_at hl 0 rfl) ?_
    refine lv_if_eq (tgt := 225) hx hb dX4_isObeyed_217 (by decide) (fun c217 => ?_) (fun c217 => ?_)
    · have h := (if_pos c217).symm.trans h
      refine lv_iconst (v := 0) hx hb dX4_isObeyed_225 rfl ?_
      exact w_X4_isObeyed_226 X hb2 v212 σ (0 : Int32) _ _ _ h hW (lv_sub hl [0] rfl)
    · have h := (if_neg c217).symm.trans h
      refine lv_iload hx hb dX4_isObeyed_220 (lv_at hl 1 rfl) ?_
      refine lv_goto (tgt := 226) hx hb dX4_isObeyed_222 (by decide) ?_
      exact w_X4_isObeyed_226 X hb2 v212 σ v204 _ _ _ h hW (lv_sub hl [0] rfl)
  have h := (if_neg c22_121).symm.trans h
  refine lb_tswD (tgt := 232) (lb_kn_cons c22_102 (lb_kn_cons c22_103 (lb_kn_cons c22_106 (lb_kn_cons c22_107 (lb_kn_cons c22_108 (lb_kn_cons c22_112 (lb_kn_cons c22_121 lb_kn_nil))))))) hx hb dX4_isObeyed_22 (by decide) (by decide) (by decide) (by decide) (by decide) ?_
  refine lv_iconst (v := 0) hx hb dX4_isObeyed_232 rfl ?_
  obtain rfl := Option.some.inj h
  exact lb_zret X hW (Or.inl rfl) dX4_isObeyed_233
abbrev rmX7_become : Room := { frames := 1, cells := 0, slots := 0, locals := 18 }
def f_X7_become (b0 : Nat) (b1 : Nat) (σ : lb_Mem) : Option lb_Mem := lb_let (lb_cpy σ (b1 + 8) (b0 + 8) 8) (fun s12 : lb_Mem => lb_let (lb_cpy s12 (b1 + 9) (b0 + 9) 8) (fun s27 : lb_Mem => lb_let (lb_cpy s27 (b1 + 10) (b0 + 10) 8) (fun s42 : lb_Mem => lb_let (lb_cpy s42 (b1 + 11) (b0 + 11) 8) (fun s57 : lb_Mem => lb_let (lb_cpy s57 (b1 + 12) (b0 + 12) 8) (fun s72 : lb_Mem => lb_let (lb_cpy s72 (b1 + 13) (b0 + 13) 8) (fun s87 : lb_Mem => lb_let (lb_cpy s87 (b1 + 14) (b0 + 14) 5) (fun s101 : lb_Mem => lb_let (lb_cpy s101 (b1 + 15) (b0 + 15) 5) (fun s115 : lb_Mem => lb_let (lb_sto s115 b0 9 (s115 b1 9)) (fun s123 : lb_Mem => lb_let (lb_sto s123 b0 10 (s123 b1 10)) (fun s131 : lb_Mem => lb_let (lb_sto s131 b0 11 (s131 b1 11)) (fun s139 : lb_Mem => some s139)))))))))))
set_option maxRecDepth 20000 in
set_option maxHeartbeats 4000000 in
theorem m_X7_become (l : Launch) (G : lb_G) (σ : lb_Mem) {b0 : Nat} (hb0 : lb_V b0) {b1 : Nat} (hb1 : lb_V b1) (qr : lb_Mem) (h : f_X7_become b0 b1 σ = some qr) : lb_M l yX7_become cX7_become 2 none rmX7_become [.ref (lb_ad G b0), .ref (lb_ad G b1)] G σ (lb_QV G qr) := by
  refine lb_start RX7 (by decide +kernel) rfl (Nat.le_of_ble_eq_true rfl) (fun p e s m below meth c X hW ls hl => ?_)
  have hx := X.1
  have hb := X.2.1
  have hl : lv_has ls 2 [(0, .ref (lb_ad G b0)), (1, .ref (lb_ad G b1))] := hl
  have h : (lb_let (lb_cpy σ (b1 + 8) (b0 + 8) 8) (fun s12 : lb_Mem => lb_let (lb_cpy s12 (b1 + 9) (b0 + 9) 8) (fun s27 : lb_Mem => lb_let (lb_cpy s27 (b1 + 10) (b0 + 10) 8) (fun s42 : lb_Mem => lb_let (lb_cpy s42 (b1 + 11) (b0 + 11) 8) (fun s57 : lb_Mem => lb_let (lb_cpy s57 (b1 + 12) (b0 + 12) 8) (fun s72 : lb_Mem => lb_let (lb_cpy s72 (b1 + 13) (b0 + 13) 8) (fun s87 : lb_Mem => lb_let (lb_cpy s87 (b1 + 14) (b0 + 14) 5) (fun s101 : lb_Mem => lb_let (lb_cpy s101 (b1 + 15) (b0 + 15) 5) (fun s115 : lb_Mem => lb_let (lb_sto s115 b0 9 (s115 b1 9)) (fun s123 : lb_Mem => lb_let (lb_sto s123 b0 10 (s123 b1 10)) (fun s131 : lb_Mem => lb_let (lb_sto s131 b0 11 (s131 b1 11)) (fun s139 : lb_Mem => some s139)))))))))))) = some qr := h
  skip
  refine lv_aload_n hx hb dX7_become_0 rfl (lv_at hl 1 rfl) ?_
  refine rg_X7_33 (k := (b1 + 8)) X hW hb1 rfl dX7_become_1 ?_
  refine lv_iconst (v := 0) hx hb dX7_become_4 rfl ?_
  refine lv_aload_n hx hb dX7_become_5 rfl (lv_at hl 0 rfl) ?_
  refine rg_X7_33 (k := (b0 + 8)) X hW hb0 rfl dX7_become_6 ?_
  refine lv_iconst (v := 0) hx hb dX7_become_9 rfl ?_
  refine lv_bipush (v := 8) hx hb dX7_become_10 rfl ?_
  refine lb_copy X hW hl.1 (lb_Var8 hb1) (lb_Var8 hb0) (x := 8) rfl (by decide) qw_346 (Nat.le_of_ble_eq_true rfl) (Nat.le_of_ble_eq_true rfl) dX7_become_12 (fun H locs hW => ?_)
  obtain ⟨s12, e12⟩ : ∃ z, z = lb_cpy σ (b1 + 8) (b0 + 8) 8 := ⟨_, rfl⟩
  rw [← e12] at hW
  have h := lb_letI e12 h
  refine lv_aload_n hx hb dX7_become_15 rfl (lv_at hl 1 rfl) ?_
  refine rg_X7_37 (k := (b1 + 9)) X hW hb1 rfl dX7_become_16 ?_
  refine lv_iconst (v := 0) hx hb dX7_become_19 rfl ?_
  refine lv_aload_n hx hb dX7_become_20 rfl (lv_at hl 0 rfl) ?_
  refine rg_X7_37 (k := (b0 + 9)) X hW hb0 rfl dX7_become_21 ?_
  refine lv_iconst (v := 0) hx hb dX7_become_24 rfl ?_
  refine lv_bipush (v := 8) hx hb dX7_become_25 rfl ?_
  refine lb_copy X hW hl.1 (lb_Var9 hb1) (lb_Var9 hb0) (x := 8) rfl (by decide) qw_346 (Nat.le_of_ble_eq_true rfl) (Nat.le_of_ble_eq_true rfl) dX7_become_27 (fun H locs hW => ?_)
  obtain ⟨s27, e27⟩ : ∃ z, z = lb_cpy s12 (b1 + 9) (b0 + 9) 8 := ⟨_, rfl⟩
  rw [← e27] at hW
  have h := lb_letI e27 h
  refine lv_aload_n hx hb dX7_become_30 rfl (lv_at hl 1 rfl) ?_
  refine rg_X7_40 (k := (b1 + 10)) X hW hb1 rfl dX7_become_31 ?_
  refine lv_iconst (v := 0) hx hb dX7_become_34 rfl ?_
  refine lv_aload_n hx hb dX7_become_35 rfl (lv_at hl 0 rfl) ?_
  refine rg_X7_40 (k := (b0 + 10)) X hW hb0 rfl dX7_become_36 ?_
  refine lv_iconst (v := 0) hx hb dX7_become_39 rfl ?_
  refine lv_bipush (v := 8) hx hb dX7_become_40 rfl ?_
  refine lb_copy X hW hl.1 (lb_Var10 hb1) (lb_Var10 hb0) (x := 8) rfl (by decide) qw_346 (Nat.le_of_ble_eq_true rfl) (Nat.le_of_ble_eq_true rfl) dX7_become_42 (fun H locs hW => ?_)
  obtain ⟨s42, e42⟩ : ∃ z, z = lb_cpy s27 (b1 + 10) (b0 + 10) 8 := ⟨_, rfl⟩
  rw [← e42] at hW
  have h := lb_letI e42 h
  refine lv_aload_n hx hb dX7_become_45 rfl (lv_at hl 1 rfl) ?_
  refine rg_X7_43 (k := (b1 + 11)) X hW hb1 rfl dX7_become_46 ?_
  refine lv_iconst (v := 0) hx hb dX7_become_49 rfl ?_
  refine lv_aload_n hx hb dX7_become_50 rfl (lv_at hl 0 rfl) ?_
  refine rg_X7_43 (k := (b0 + 11)) X hW hb0 rfl dX7_become_51 ?_
  refine lv_iconst (v := 0) hx hb dX7_become_54 rfl ?_
  refine lv_bipush (v := 8) hx hb dX7_become_55 rfl ?_
  refine lb_copy X hW hl.1 (lb_Var11 hb1) (lb_Var11 hb0) (x := 8) rfl (by decide) qw_346 (Nat.le_of_ble_eq_true rfl) (Nat.le_of_ble_eq_true rfl) dX7_become_57 (fun H locs hW => ?_)
  obtain ⟨s57, e57⟩ : ∃ z, z = lb_cpy s42 (b1 + 11) (b0 + 11) 8 := ⟨_, rfl⟩
  rw [← e57] at hW
  have h := lb_letI e57 h
  refine lv_aload_n hx hb dX7_become_60 rfl (lv_at hl 1 rfl) ?_
  refine rg_X7_46 (k := (b1 + 12)) X hW hb1 rfl dX7_become_61 ?_
  refine lv_iconst (v := 0) hx hb dX7_become_64 rfl ?_
  refine lv_aload_n hx hb dX7_become_65 rfl (lv_at hl 0 rfl) ?_
  refine rg_X7_46 (k := (b0 + 12)) X hW hb0 rfl dX7_become_66 ?_
  refine lv_iconst (v := 0) hx hb dX7_become_69 rfl ?_
  refine lv_bipush (v := 8) hx hb dX7_become_70 rfl ?_
  refine lb_copy X hW hl.1 (lb_Var12 hb1) (lb_Var12 hb0) (x := 8) rfl (by decide) qw_346 (Nat.le_of_ble_eq_true rfl) (Nat.le_of_ble_eq_true rfl) dX7_become_72 (fun H locs hW => ?_)
  obtain ⟨s72, e72⟩ : ∃ z, z = lb_cpy s57 (b1 + 12) (b0 + 12) 8 := ⟨_, rfl⟩
  rw [← e72] at hW
  have h := lb_letI e72 h
  refine lv_aload_n hx hb dX7_become_75 rfl (lv_at hl 1 rfl) ?_
  refine rg_X7_49 (k := (b1 + 13)) X hW hb1 rfl dX7_become_76 ?_
  refine lv_iconst (v := 0) hx hb dX7_become_79 rfl ?_
  refine lv_aload_n hx hb dX7_become_80 rfl (lv_at hl 0 rfl) ?_
  refine rg_X7_49 (k := (b0 + 13)) X hW hb0 rfl dX7_become_81 ?_
  refine lv_iconst (v := 0) hx hb dX7_become_84 rfl ?_
  refine lv_bipush (v := 8) hx hb dX7_become_85 rfl ?_
  refine lb_copy X hW hl.1 (lb_Var13 hb1) (lb_Var13 hb0) (x := 8) rfl (by decide) qw_346 (Nat.le_of_ble_eq_true rfl) (Nat.le_of_ble_eq_true rfl) dX7_become_87 (fun H locs hW => ?_)
  obtain ⟨s87, e87⟩ : ∃ z, z = lb_cpy s72 (b1 + 13) (b0 + 13) 8 := ⟨_, rfl⟩
  rw [← e87] at hW
  have h := lb_letI e87 h
  refine lv_aload_n hx hb dX7_become_90 rfl (lv_at hl 1 rfl) ?_
  refine rg_X7_52 (k := (b1 + 14)) X hW hb1 rfl dX7_become_91 ?_
  refine lv_iconst (v := 0) hx hb dX7_become_94 rfl ?_
  refine lv_aload_n hx hb dX7_become_95 rfl (lv_at hl 0 rfl) ?_
  refine rg_X7_52 (k := (b0 + 14)) X hW hb0 rfl dX7_become_96 ?_
  refine lv_iconst (v := 0) hx hb dX7_become_99 rfl ?_
  refine lv_iconst (v := 5) hx hb dX7_become_100 rfl ?_
  refine lb_copy X hW hl.1 (lb_Var14 hb1) (lb_Var14 hb0) (x := 5) rfl (by decide) qw_346 (Nat.le_of_ble_eq_true rfl) (Nat.le_of_ble_eq_true rfl) dX7_become_101 (fun H locs hW => ?_)
  obtain ⟨s101, e101⟩ : ∃ z, z = lb_cpy s87 (b1 + 14) (b0 + 14) 5 := ⟨_, rfl⟩
  rw [← e101] at hW
  have h := lb_letI e101 h
  refine lv_aload_n hx hb dX7_become_104 rfl (lv_at hl 1 rfl) ?_
  refine rg_X7_55 (k := (b1 + 15)) X hW hb1 rfl dX7_become_105 ?_
  refine lv_iconst (v := 0) hx hb dX7_become_108 rfl ?_
  refine lv_aload_n hx hb dX7_become_109 rfl (lv_at hl 0 rfl) ?_
  refine rg_X7_55 (k := (b0 + 15)) X hW hb0 rfl dX7_become_110 ?_
  refine lv_iconst (v := 0) hx hb dX7_become_113 rfl ?_
  refine lv_iconst (v := 5) hx hb dX7_become_114 rfl ?_
  refine lb_copy X hW hl.1 (lb_Var15 hb1) (lb_Var15 hb0) (x := 5) rfl (by decide) qw_346 (Nat.le_of_ble_eq_true rfl) (Nat.le_of_ble_eq_true rfl) dX7_become_115 (fun H locs hW => ?_)
  obtain ⟨s115, e115⟩ : ∃ z, z = lb_cpy s101 (b1 + 15) (b0 + 15) 5 := ⟨_, rfl⟩
  rw [← e115] at hW
  have h := lb_letI e115 h
  refine lv_aload_n hx hb dX7_become_118 rfl (lv_at hl 0 rfl) ?_
  refine lv_aload_n hx hb dX7_become_119 rfl (lv_at hl 1 rfl) ?_
  refine rg_X7_58 X hW hb1 dX7_become_120 ?_
  refine rp_X7_58 X hW hb0 dX7_become_123 (fun H locs hW => ?_)
  obtain ⟨s123, e123⟩ : ∃ z, z = lb_sto s115 b0 9 (s115 b1 9) := ⟨_, rfl⟩
  rw [← e123] at hW
  have h := lb_letI e123 h
  refine lv_aload_n hx hb dX7_become_126 rfl (lv_at hl 0 rfl) ?_
  refine lv_aload_n hx hb dX7_become_127 rfl (lv_at hl 1 rfl) ?_
  refine rg_X7_62 X hW hb1 dX7_become_128 ?_
  refine rp_X7_62 X hW hb0 dX7_become_131 (fun H locs hW => ?_)
  obtain ⟨s131, e131⟩ : ∃ z, z = lb_sto s123 b0 10 (s123 b1 10) := ⟨_, rfl⟩
  rw [← e131] at hW
  have h := lb_letI e131 h
  refine lv_aload_n hx hb dX7_become_134 rfl (lv_at hl 0 rfl) ?_
  refine lv_aload_n hx hb dX7_become_135 rfl (lv_at hl 1 rfl) ?_
  refine rg_X7_65 X hW hb1 dX7_become_136 ?_
  refine rp_X7_65 X hW hb0 dX7_become_139 (fun H locs hW => ?_)
  obtain ⟨s139, e139⟩ : ∃ z, z = lb_sto s131 b0 11 (s131 b1 11) := ⟨_, rfl⟩
  rw [← e139] at hW
  have h := lb_letI e139 h
  obtain rfl := Option.some.inj h
  exact lb_vret X hW dX7_become_142
abbrev rmX7_labelsOneOn : Room := { frames := 0, cells := 0, slots := 0, locals := 0 }
def f_X7_labelsOneOn_2 (b0 : Nat) : Nat → Int32 → lb_Mem → Option lb_Mem
  | 0, _, _ => none
  | n + 1, x1, σ => if (σ b0 9) ≤ x1 then some σ else lb_chk (lb_ix x1 8) (if (σ (b0 + 11) x1.toNatClampNeg) = (6 : Int32) then f_X7_labelsOneOn_2 b0 n (x1 + 1) σ else lb_chk (lb_ix x1 8) (lb_chk (lb_ix x1 8) (lb_let (lb_sto σ (b0 + 11) x1.toNatClampNeg (((σ (b0 + 11) x1.toNatClampNeg) + (1 : Int32)) - ((σ (b0 + 11) x1.toNatClampNeg) + (1 : Int32)) / (6 : Int32) * (6 : Int32))) (fun s37 : lb_Mem => f_X7_labelsOneOn_2 b0 n (x1 + 1) s37))))
set_option maxRecDepth 20000 in
set_option maxHeartbeats 4000000 in
theorem w_X7_labelsOneOn_2 {p : Program} {l : Launch} {e : Env} {s : State} {m : MethodId} {args : Array Value} {below : List Frame} {meth : Method} {c : Code} {G : lb_G} {b0 : Nat} {qr : lb_Mem} (X : lb_C G p s m args meth c cX7_labelsOneOn 2 RX7 none) (hb0 : lb_V b0) : ∀ (n : Nat) (x1 : Int32) (σ : lb_Mem) (H : Heap) (locs : List Loc) (ls : Array Slot), f_X7_labelsOneOn_2 b0 n x1 σ = some qr → lb_W G s σ H locs → lv_has ls 2 [(0, .ref (lb_ad G b0)), (1, .int x1)] → W p l e rmX7_labelsOneOn s m args below meth c H locs 0 0 (MQ below (lb_QV G qr) args s 0 0 (lb_A G)) (F0 m 2 ls []) := by
  have hx := X.1
  have hb := X.2.1
  intro n
  induction n with
  | zero => intro x1 σ H locs ls h hW hl; exact absurd h (fun z => by cases z)
  | succ n ih =>
    intro x1 σ H locs ls h hW hl
    have h : (if (σ b0 9) ≤ x1 then some σ else lb_chk (lb_ix x1 8) (if (σ (b0 + 11) x1.toNatClampNeg) = (6 : Int32) then f_X7_labelsOneOn_2 b0 n (x1 + 1) σ else lb_chk (lb_ix x1 8) (lb_chk (lb_ix x1 8) (lb_let (lb_sto σ (b0 + 11) x1.toNatClampNeg (((σ (b0 + 11) x1.toNatClampNeg) + (1 : Int32)) - ((σ (b0 + 11) x1.toNatClampNeg) + (1 : Int32)) / (6 : Int32) * (6 : Int32))) (fun s37 : lb_Mem => f_X7_labelsOneOn_2 b0 n (x1 + 1) s37))))) = some qr := h
    refine lv_iload_n hx hb dX7_labelsOneOn_2 rfl (lv_at hl 1 rfl) ?_
    refine lv_aload_n hx hb dX7_labelsOneOn_3 rfl (lv_at hl 0 rfl) ?_
    refine rg_X7_58 X hW hb0 dX7_labelsOneOn_4 ?_
    refine lv_icmp_ge (tgt := 44) hx hb dX7_labelsOneOn_7 (by decide) (fun c7 => ?_) (fun c7 => ?_)
    · have h := (if_pos c7).symm.trans h
      obtain rfl := Option.some.inj h
      exact lb_vret X hW dX7_labelsOneOn_44
    · have h := (if_neg c7).symm.trans h
      refine lv_aload_n hx hb dX7_labelsOneOn_10 rfl (lv_at hl 0 rfl) ?_
      refine rg_X7_43 (k := (b0 + 11)) X hW hb0 rfl dX7_labelsOneOn_11 ?_
      refine lv_iload_n hx hb dX7_labelsOneOn_14 rfl (lv_at hl 1 rfl) ?_
      obtain ⟨i15, h⟩ := lb_chk_in h
      refine lb_ild X hW (lb_Var11 hb0) i15 dX7_labelsOneOn_15 ?_
      refine lv_bipush (v := 6) hx hb dX7_labelsOneOn_16 rfl ?_
      refine lv_icmp_eq (tgt := 38) hx hb dX7_labelsOneOn_18 (by decide) (fun c18 => ?_) (fun c18 => ?_)
      · have h := (if_pos c18).symm.trans h
        refine lv_iinc (v := (x1 + 1)) (lv' := [(1, .int (x1 + 1)), (0, .ref (lb_ad G b0))]) hx hb dX7_labelsOneOn_38 hl (k := 1) rfl rfl (by decide) rfl (fun ls hl => ?_)
        refine lv_goto (tgt := 2) hx hb dX7_labelsOneOn_41 (by decide) ?_
        exact ih (x1 + 1) σ _ _ _ h hW (lv_sub hl [1, 0] rfl)
      · have h := (if_neg c18).symm.trans h
        refine lv_aload_n hx hb dX7_labelsOneOn_21 rfl (lv_at hl 0 rfl) ?_
        refine rg_X7_43 (k := (b0 + 11)) X hW hb0 rfl dX7_labelsOneOn_22 ?_
        refine lv_iload_n hx hb dX7_labelsOneOn_25 rfl (lv_at hl 1 rfl) ?_
        refine lv_aload_n hx hb dX7_labelsOneOn_26 rfl (lv_at hl 0 rfl) ?_
        refine rg_X7_43 (k := (b0 + 11)) X hW hb0 rfl dX7_labelsOneOn_27 ?_
        refine lv_iload_n hx hb dX7_labelsOneOn_30 rfl (lv_at hl 1 rfl) ?_
        obtain ⟨i31, h⟩ := lb_chk_in h
        refine lb_ild X hW (lb_Var11 hb0) i31 dX7_labelsOneOn_31 ?_
        refine lv_iconst (v := 1) hx hb dX7_labelsOneOn_32 rfl ?_
        refine lv_iadd hx hb dX7_labelsOneOn_33 ?_
        refine lv_bipush (v := 6) hx hb dX7_labelsOneOn_34 rfl ?_
        refine lv_irem hx hb dX7_labelsOneOn_36 (by decide) ?_
        obtain ⟨i37, h⟩ := lb_chk_in h
        refine lb_ist X hW (lb_Var11 hb0) i37 dX7_labelsOneOn_37 (fun H locs hW => ?_)
        obtain ⟨s37, e37⟩ : ∃ z, z = lb_sto σ (b0 + 11) x1.toNatClampNeg (((σ (b0 + 11) x1.toNatClampNeg) + (1 : Int32)) - ((σ (b0 + 11) x1.toNatClampNeg) + (1 : Int32)) / (6 : Int32) * (6 : Int32)) := ⟨_, rfl⟩
        rw [← e37] at hW
        have h := lb_letI e37 h
        refine lv_iinc (v := (x1 + 1)) (lv' := [(1, .int (x1 + 1)), (0, .ref (lb_ad G b0))]) hx hb dX7_labelsOneOn_38 hl (k := 1) rfl rfl (by decide) rfl (fun ls hl => ?_)
        refine lv_goto (tgt := 2) hx hb dX7_labelsOneOn_41 (by decide) ?_
        exact ih (x1 + 1) s37 _ _ _ h hW (lv_sub hl [1, 0] rfl)
def f_X7_labelsOneOn (b0 : Nat) (σ : lb_Mem) : Option lb_Mem := f_X7_labelsOneOn_2 b0 lb_N (0 : Int32) σ
set_option maxRecDepth 20000 in
set_option maxHeartbeats 4000000 in
theorem m_X7_labelsOneOn (l : Launch) (G : lb_G) (σ : lb_Mem) {b0 : Nat} (hb0 : lb_V b0) (qr : lb_Mem) (h : f_X7_labelsOneOn b0 σ = some qr) : lb_M l yX7_labelsOneOn cX7_labelsOneOn 2 none rmX7_labelsOneOn [.ref (lb_ad G b0)] G σ (lb_QV G qr) := by
  refine lb_start RX7 (by decide +kernel) rfl (Nat.le_of_ble_eq_true rfl) (fun p e s m below meth c X hW ls hl => ?_)
  have hx := X.1
  have hb := X.2.1
  have hl : lv_has ls 2 [(0, .ref (lb_ad G b0))] := hl
  have h : (f_X7_labelsOneOn_2 b0 lb_N (0 : Int32) σ) = some qr := h
  skip
  refine lv_iconst (v := 0) hx hb dX7_labelsOneOn_0 rfl ?_
  refine lv_istore_n (lv' := [(1, .int (0 : Int32)), (0, .ref (lb_ad G b0))]) hx hb dX7_labelsOneOn_1 rfl hl (by decide) rfl (fun ls hl => ?_)
  exact w_X7_labelsOneOn_2 X hb0 lb_N (0 : Int32) σ _ _ _ h hW (lv_sub hl [1, 0] rfl)
abbrev rmX7_allGrace : Room := { frames := 0, cells := 0, slots := 0, locals := 0 }
def f_X7_allGrace_4 (σ : lb_Mem) (b0 : Nat) : Nat → Int32 → Int32 → Option Int32
  | 0, _, _ => none
  | n + 1, x1, x2 => if (σ b0 10) ≤ x2 then some x1 else lb_chk (lb_ix x2 5) (lb_let ((x1 + (σ (b0 + 15) x2.toNatClampNeg))) (fun v20 : Int32 => f_X7_allGrace_4 σ b0 n v20 (x2 + 1)))
set_option maxRecDepth 20000 in
set_option maxHeartbeats 4000000 in
theorem w_X7_allGrace_4 {p : Program} {l : Launch} {e : Env} {s : State} {m : MethodId} {args : Array Value} {below : List Frame} {meth : Method} {c : Code} {G : lb_G} {σ : lb_Mem} {b0 : Nat} {qr : Int32} (X : lb_C G p s m args meth c cX7_allGrace 3 RX7 (some .int)) (hb0 : lb_V b0) : ∀ (n : Nat) (x1 : Int32) (x2 : Int32) (H : Heap) (locs : List Loc) (ls : Array Slot), f_X7_allGrace_4 σ b0 n x1 x2 = some qr → lb_W G s σ H locs → lv_has ls 3 [(0, .ref (lb_ad G b0)), (1, .int x1), (2, .int x2)] → W p l e rmX7_allGrace s m args below meth c H locs 0 0 (MQ below (lb_QI G qr σ) args s 0 0 (lb_A G)) (F0 m 4 ls []) := by
  have hx := X.1
  have hb := X.2.1
  intro n
  induction n with
  | zero => intro x1 x2 H locs ls h hW hl; exact absurd h (fun z => by cases z)
  | succ n ih =>
    intro x1 x2 H locs ls h hW hl
    have h : (if (σ b0 10) ≤ x2 then some x1 else lb_chk (lb_ix x2 5) (lb_let ((x1 + (σ (b0 + 15) x2.toNatClampNeg))) (fun v20 : Int32 => f_X7_allGrace_4 σ b0 n v20 (x2 + 1)))) = some qr := h
    refine lv_iload_n hx hb dX7_allGrace_4 rfl (lv_at hl 2 rfl) ?_
    refine lv_aload_n hx hb dX7_allGrace_5 rfl (lv_at hl 0 rfl) ?_
    refine rg_X7_62 X hW hb0 dX7_allGrace_6 ?_
    refine lv_icmp_ge (tgt := 27) hx hb dX7_allGrace_9 (by decide) (fun c9 => ?_) (fun c9 => ?_)
    · have h := (if_pos c9).symm.trans h
      refine lv_iload_n hx hb dX7_allGrace_27 rfl (lv_at hl 1 rfl) ?_
      obtain rfl := Option.some.inj h
      exact lb_iret X hW dX7_allGrace_28
    · have h := (if_neg c9).symm.trans h
      refine lv_iload_n hx hb dX7_allGrace_12 rfl (lv_at hl 1 rfl) ?_
      refine lv_aload_n hx hb dX7_allGrace_13 rfl (lv_at hl 0 rfl) ?_
      refine rg_X7_55 (k := (b0 + 15)) X hW hb0 rfl dX7_allGrace_14 ?_
      refine lv_iload_n hx hb dX7_allGrace_17 rfl (lv_at hl 2 rfl) ?_
      obtain ⟨i18, h⟩ := lb_chk_in h
      refine lb_ild X hW (lb_Var15 hb0) i18 dX7_allGrace_18 ?_
      refine lv_iadd hx hb dX7_allGrace_19 ?_
      refine lv_topi (fun v20 e20 => ?_)
      have h := lb_letI e20 h
      refine lv_istore_n (lv' := [(1, .int v20), (0, .ref (lb_ad G b0)), (2, .int x2)]) hx hb dX7_allGrace_20 rfl hl (by decide) rfl (fun ls hl => ?_)
      refine lv_iinc (v := (x2 + 1)) (lv' := [(2, .int (x2 + 1)), (1, .int v20), (0, .ref (lb_ad G b0))]) hx hb dX7_allGrace_21 hl (k := 2) rfl rfl (by decide) rfl (fun ls hl => ?_)
      refine lv_goto (tgt := 4) hx hb dX7_allGrace_24 (by decide) ?_
      exact ih v20 (x2 + 1) _ _ _ h hW (lv_sub hl [2, 1, 0] rfl)
def f_X7_allGrace (σ : lb_Mem) (b0 : Nat) : Option Int32 := f_X7_allGrace_4 σ b0 lb_N (0 : Int32) (0 : Int32)
set_option maxRecDepth 20000 in
set_option maxHeartbeats 4000000 in
theorem m_X7_allGrace (l : Launch) (G : lb_G) (σ : lb_Mem) {b0 : Nat} (hb0 : lb_V b0) (qr : Int32) (h : f_X7_allGrace σ b0 = some qr) : lb_M l yX7_allGrace cX7_allGrace 3 (some .int) rmX7_allGrace [.ref (lb_ad G b0)] G σ (lb_QI G qr σ) := by
  refine lb_start RX7 (by decide +kernel) rfl (Nat.le_of_ble_eq_true rfl) (fun p e s m below meth c X hW ls hl => ?_)
  have hx := X.1
  have hb := X.2.1
  have hl : lv_has ls 3 [(0, .ref (lb_ad G b0))] := hl
  have h : (f_X7_allGrace_4 σ b0 lb_N (0 : Int32) (0 : Int32)) = some qr := h
  skip
  refine lv_iconst (v := 0) hx hb dX7_allGrace_0 rfl ?_
  refine lv_istore_n (lv' := [(1, .int (0 : Int32)), (0, .ref (lb_ad G b0))]) hx hb dX7_allGrace_1 rfl hl (by decide) rfl (fun ls hl => ?_)
  refine lv_iconst (v := 0) hx hb dX7_allGrace_2 rfl ?_
  refine lv_istore_n (lv' := [(2, .int (0 : Int32)), (1, .int (0 : Int32)), (0, .ref (lb_ad G b0))]) hx hb dX7_allGrace_3 rfl hl (by decide) rfl (fun ls hl => ?_)
  exact w_X7_allGrace_4 X hb0 lb_N (0 : Int32) (0 : Int32) _ _ _ h hW (lv_sub hl [2, 1, 0] rfl)
abbrev rmX7_withoutGrace : Room := { frames := 0, cells := 0, slots := 0, locals := 0 }
def f_X7_withoutGrace_4 (σ : lb_Mem) (b0 : Nat) : Nat → Int32 → Int32 → Option Int32
  | 0, _, _ => none
  | n + 1, x1, x2 => if (σ b0 10) ≤ x2 then some x1 else lb_chk (lb_ix x2 5) (if (σ (b0 + 15) x2.toNatClampNeg) = 0 then f_X7_withoutGrace_4 σ b0 n (x1 + 1) (x2 + 1) else f_X7_withoutGrace_4 σ b0 n x1 (x2 + 1))
set_option maxRecDepth 20000 in
set_option maxHeartbeats 4000000 in
theorem w_X7_withoutGrace_4 {p : Program} {l : Launch} {e : Env} {s : State} {m : MethodId} {args : Array Value} {below : List Frame} {meth : Method} {c : Code} {G : lb_G} {σ : lb_Mem} {b0 : Nat} {qr : Int32} (X : lb_C G p s m args meth c cX7_withoutGrace 3 RX7 (some .int)) (hb0 : lb_V b0) : ∀ (n : Nat) (x1 : Int32) (x2 : Int32) (H : Heap) (locs : List Loc) (ls : Array Slot), f_X7_withoutGrace_4 σ b0 n x1 x2 = some qr → lb_W G s σ H locs → lv_has ls 3 [(0, .ref (lb_ad G b0)), (1, .int x1), (2, .int x2)] → W p l e rmX7_withoutGrace s m args below meth c H locs 0 0 (MQ below (lb_QI G qr σ) args s 0 0 (lb_A G)) (F0 m 4 ls []) := by
  have hx := X.1
  have hb := X.2.1
  intro n
  induction n with
  | zero => intro x1 x2 H locs ls h hW hl; exact absurd h (fun z => by cases z)
  | succ n ih =>
    intro x1 x2 H locs ls h hW hl
    have h : (if (σ b0 10) ≤ x2 then some x1 else lb_chk (lb_ix x2 5) (if (σ (b0 + 15) x2.toNatClampNeg) = 0 then f_X7_withoutGrace_4 σ b0 n (x1 + 1) (x2 + 1) else f_X7_withoutGrace_4 σ b0 n x1 (x2 + 1))) = some qr := h
    refine lv_iload_n hx hb dX7_withoutGrace_4 rfl (lv_at hl 2 rfl) ?_
    refine lv_aload_n hx hb dX7_withoutGrace_5 rfl (lv_at hl 0 rfl) ?_
    refine rg_X7_62 X hW hb0 dX7_withoutGrace_6 ?_
    refine lv_icmp_ge (tgt := 30) hx hb dX7_withoutGrace_9 (by decide) (fun c9 => ?_) (fun c9 => ?_)
    · have h := (if_pos c9).symm.trans h
      refine lv_iload_n hx hb dX7_withoutGrace_30 rfl (lv_at hl 1 rfl) ?_
      obtain rfl := Option.some.inj h
      exact lb_iret X hW dX7_withoutGrace_31
    · have h := (if_neg c9).symm.trans h
      refine lv_aload_n hx hb dX7_withoutGrace_12 rfl (lv_at hl 0 rfl) ?_
      refine rg_X7_55 (k := (b0 + 15)) X hW hb0 rfl dX7_withoutGrace_13 ?_
      refine lv_iload_n hx hb dX7_withoutGrace_16 rfl (lv_at hl 2 rfl) ?_
      obtain ⟨i17, h⟩ := lb_chk_in h
      refine lb_ild X hW (lb_Var15 hb0) i17 dX7_withoutGrace_17 ?_
      refine lv_if_ne (tgt := 24) hx hb dX7_withoutGrace_18 (by decide) (fun c18 => ?_) (fun c18 => ?_)
      · have h := (if_neg c18).symm.trans h
        refine lv_iinc (v := (x2 + 1)) (lv' := [(2, .int (x2 + 1)), (0, .ref (lb_ad G b0)), (1, .int x1)]) hx hb dX7_withoutGrace_24 hl (k := 2) rfl rfl (by decide) rfl (fun ls hl => ?_)
        refine lv_goto (tgt := 4) hx hb dX7_withoutGrace_27 (by decide) ?_
        exact ih x1 (x2 + 1) _ _ _ h hW (lv_sub hl [1, 2, 0] rfl)
      · have h := (if_pos c18).symm.trans h
        refine lv_iinc (v := (x1 + 1)) (lv' := [(1, .int (x1 + 1)), (0, .ref (lb_ad G b0)), (2, .int x2)]) hx hb dX7_withoutGrace_21 hl (k := 1) rfl rfl (by decide) rfl (fun ls hl => ?_)
        refine lv_iinc (v := (x2 + 1)) (lv' := [(2, .int (x2 + 1)), (1, .int (x1 + 1)), (0, .ref (lb_ad G b0))]) hx hb dX7_withoutGrace_24 hl (k := 2) rfl rfl (by decide) rfl (fun ls hl => ?_)
        refine lv_goto (tgt := 4) hx hb dX7_withoutGrace_27 (by decide) ?_
        exact ih (x1 + 1) (x2 + 1) _ _ _ h hW (lv_sub hl [2, 1, 0] rfl)
def f_X7_withoutGrace (σ : lb_Mem) (b0 : Nat) : Option Int32 := f_X7_withoutGrace_4 σ b0 lb_N (0 : Int32) (0 : Int32)
set_option maxRecDepth 20000 in
set_option maxHeartbeats 4000000 in
theorem m_X7_withoutGrace (l : Launch) (G : lb_G) (σ : lb_Mem) {b0 : Nat} (hb0 : lb_V b0) (qr : Int32) (h : f_X7_withoutGrace σ b0 = some qr) : lb_M l yX7_withoutGrace cX7_withoutGrace 3 (some .int) rmX7_withoutGrace [.ref (lb_ad G b0)] G σ (lb_QI G qr σ) := by
  refine lb_start RX7 (by decide +kernel) rfl (Nat.le_of_ble_eq_true rfl) (fun p e s m below meth c X hW ls hl => ?_)
  have hx := X.1
  have hb := X.2.1
  have hl : lv_has ls 3 [(0, .ref (lb_ad G b0))] := hl
  have h : (f_X7_withoutGrace_4 σ b0 lb_N (0 : Int32) (0 : Int32)) = some qr := h
  skip
  refine lv_iconst (v := 0) hx hb dX7_withoutGrace_0 rfl ?_
  refine lv_istore_n (lv' := [(1, .int (0 : Int32)), (0, .ref (lb_ad G b0))]) hx hb dX7_withoutGrace_1 rfl hl (by decide) rfl (fun ls hl => ?_)
  refine lv_iconst (v := 0) hx hb dX7_withoutGrace_2 rfl ?_
  refine lv_istore_n (lv' := [(2, .int (0 : Int32)), (1, .int (0 : Int32)), (0, .ref (lb_ad G b0))]) hx hb dX7_withoutGrace_3 rfl hl (by decide) rfl (fun ls hl => ?_)
  exact w_X7_withoutGrace_4 X hb0 lb_N (0 : Int32) (0 : Int32) _ _ _ h hW (lv_sub hl [2, 1, 0] rfl)
abbrev rmX7_spoons : Room := { frames := 0, cells := 0, slots := 0, locals := 0 }
def f_X7_spoons_4 (σ : lb_Mem) (b0 : Nat) : Nat → Int32 → Int32 → Option Int32
  | 0, _, _ => none
  | n + 1, x1, x2 => if (σ b0 9) ≤ x2 then some x1 else lb_chk (lb_ix x2 8) (lb_let ((x1 + (σ (b0 + 12) x2.toNatClampNeg))) (fun v20 : Int32 => f_X7_spoons_4 σ b0 n v20 (x2 + 1)))
set_option maxRecDepth 20000 in
set_option maxHeartbeats 4000000 in
theorem w_X7_spoons_4 {p : Program} {l : Launch} {e : Env} {s : State} {m : MethodId} {args : Array Value} {below : List Frame} {meth : Method} {c : Code} {G : lb_G} {σ : lb_Mem} {b0 : Nat} {qr : Int32} (X : lb_C G p s m args meth c cX7_spoons 3 RX7 (some .int)) (hb0 : lb_V b0) : ∀ (n : Nat) (x1 : Int32) (x2 : Int32) (H : Heap) (locs : List Loc) (ls : Array Slot), f_X7_spoons_4 σ b0 n x1 x2 = some qr → lb_W G s σ H locs → lv_has ls 3 [(0, .ref (lb_ad G b0)), (1, .int x1), (2, .int x2)] → W p l e rmX7_spoons s m args below meth c H locs 0 0 (MQ below (lb_QI G qr σ) args s 0 0 (lb_A G)) (F0 m 4 ls []) := by
  have hx := X.1
  have hb := X.2.1
  intro n
  induction n with
  | zero => intro x1 x2 H locs ls h hW hl; exact absurd h (fun z => by cases z)
  | succ n ih =>
    intro x1 x2 H locs ls h hW hl
    have h : (if (σ b0 9) ≤ x2 then some x1 else lb_chk (lb_ix x2 8) (lb_let ((x1 + (σ (b0 + 12) x2.toNatClampNeg))) (fun v20 : Int32 => f_X7_spoons_4 σ b0 n v20 (x2 + 1)))) = some qr := h
    refine lv_iload_n hx hb dX7_spoons_4 rfl (lv_at hl 2 rfl) ?_
    refine lv_aload_n hx hb dX7_spoons_5 rfl (lv_at hl 0 rfl) ?_
    refine rg_X7_58 X hW hb0 dX7_spoons_6 ?_
    refine lv_icmp_ge (tgt := 27) hx hb dX7_spoons_9 (by decide) (fun c9 => ?_) (fun c9 => ?_)
    · have h := (if_pos c9).symm.trans h
      refine lv_iload_n hx hb dX7_spoons_27 rfl (lv_at hl 1 rfl) ?_
      obtain rfl := Option.some.inj h
      exact lb_iret X hW dX7_spoons_28
    · have h := (if_neg c9).symm.trans h
      refine lv_iload_n hx hb dX7_spoons_12 rfl (lv_at hl 1 rfl) ?_
      refine lv_aload_n hx hb dX7_spoons_13 rfl (lv_at hl 0 rfl) ?_
      refine rg_X7_46 (k := (b0 + 12)) X hW hb0 rfl dX7_spoons_14 ?_
      refine lv_iload_n hx hb dX7_spoons_17 rfl (lv_at hl 2 rfl) ?_
      obtain ⟨i18, h⟩ := lb_chk_in h
      refine lb_ild X hW (lb_Var12 hb0) i18 dX7_spoons_18 ?_
      refine lv_iadd hx hb dX7_spoons_19 ?_
      refine lv_topi (fun v20 e20 => ?_)
      have h := lb_letI e20 h
      refine lv_istore_n (lv' := [(1, .int v20), (0, .ref (lb_ad G b0)), (2, .int x2)]) hx hb dX7_spoons_20 rfl hl (by decide) rfl (fun ls hl => ?_)
      refine lv_iinc (v := (x2 + 1)) (lv' := [(2, .int (x2 + 1)), (1, .int v20), (0, .ref (lb_ad G b0))]) hx hb dX7_spoons_21 hl (k := 2) rfl rfl (by decide) rfl (fun ls hl => ?_)
      refine lv_goto (tgt := 4) hx hb dX7_spoons_24 (by decide) ?_
      exact ih v20 (x2 + 1) _ _ _ h hW (lv_sub hl [2, 1, 0] rfl)
def f_X7_spoons (σ : lb_Mem) (b0 : Nat) : Option Int32 := f_X7_spoons_4 σ b0 lb_N (0 : Int32) (0 : Int32)
set_option maxRecDepth 20000 in
set_option maxHeartbeats 4000000 in
theorem m_X7_spoons (l : Launch) (G : lb_G) (σ : lb_Mem) {b0 : Nat} (hb0 : lb_V b0) (qr : Int32) (h : f_X7_spoons σ b0 = some qr) : lb_M l yX7_spoons cX7_spoons 3 (some .int) rmX7_spoons [.ref (lb_ad G b0)] G σ (lb_QI G qr σ) := by
  refine lb_start RX7 (by decide +kernel) rfl (Nat.le_of_ble_eq_true rfl) (fun p e s m below meth c X hW ls hl => ?_)
  have hx := X.1
  have hb := X.2.1
  have hl : lv_has ls 3 [(0, .ref (lb_ad G b0))] := hl
  have h : (f_X7_spoons_4 σ b0 lb_N (0 : Int32) (0 : Int32)) = some qr := h
  skip
  refine lv_iconst (v := 0) hx hb dX7_spoons_0 rfl ?_
  refine lv_istore_n (lv' := [(1, .int (0 : Int32)), (0, .ref (lb_ad G b0))]) hx hb dX7_spoons_1 rfl hl (by decide) rfl (fun ls hl => ?_)
  refine lv_iconst (v := 0) hx hb dX7_spoons_2 rfl ?_
  refine lv_istore_n (lv' := [(2, .int (0 : Int32)), (1, .int (0 : Int32)), (0, .ref (lb_ad G b0))]) hx hb dX7_spoons_3 rfl hl (by decide) rfl (fun ls hl => ?_)
  exact w_X7_spoons_4 X hb0 lb_N (0 : Int32) (0 : Int32) _ _ _ h hW (lv_sub hl [2, 1, 0] rfl)
abbrev rmX7_potsOf : Room := { frames := 0, cells := 0, slots := 0, locals := 0 }
def f_X7_potsOf_4 (σ : lb_Mem) (b0 : Nat) : Nat → Int32 → Int32 → Int32 → Option Int32
  | 0, _, _, _ => none
  | n + 1, x1, x2, x3 => if (σ b0 9) ≤ x3 then some x2 else lb_chk (lb_ix x3 8) (if (σ (b0 + 13) x3.toNatClampNeg) = x1 then lb_let ((x2 ||| ((1 : Int32) <<< (x3 &&& 31)))) (fun v27 : Int32 => f_X7_potsOf_4 σ b0 n x1 v27 (x3 + 1)) else f_X7_potsOf_4 σ b0 n x1 x2 (x3 + 1))
set_option maxRecDepth 20000 in
set_option maxHeartbeats 4000000 in
theorem w_X7_potsOf_4 {p : Program} {l : Launch} {e : Env} {s : State} {m : MethodId} {args : Array Value} {below : List Frame} {meth : Method} {c : Code} {G : lb_G} {σ : lb_Mem} {b0 : Nat} {qr : Int32} (X : lb_C G p s m args meth c cX7_potsOf 4 RX7 (some .int)) (hb0 : lb_V b0) : ∀ (n : Nat) (x1 : Int32) (x2 : Int32) (x3 : Int32) (H : Heap) (locs : List Loc) (ls : Array Slot), f_X7_potsOf_4 σ b0 n x1 x2 x3 = some qr → lb_W G s σ H locs → lv_has ls 4 [(0, .ref (lb_ad G b0)), (1, .int x1), (2, .int x2), (3, .int x3)] → W p l e rmX7_potsOf s m args below meth c H locs 0 0 (MQ below (lb_QI G qr σ) args s 0 0 (lb_A G)) (F0 m 4 ls []) := by
  have hx := X.1
  have hb := X.2.1
  intro n
  induction n with
  | zero => intro x1 x2 x3 H locs ls h hW hl; exact absurd h (fun z => by cases z)
  | succ n ih =>
    intro x1 x2 x3 H locs ls h hW hl
    have h : (if (σ b0 9) ≤ x3 then some x2 else lb_chk (lb_ix x3 8) (if (σ (b0 + 13) x3.toNatClampNeg) = x1 then lb_let ((x2 ||| ((1 : Int32) <<< (x3 &&& 31)))) (fun v27 : Int32 => f_X7_potsOf_4 σ b0 n x1 v27 (x3 + 1)) else f_X7_potsOf_4 σ b0 n x1 x2 (x3 + 1))) = some qr := h
    refine lv_iload_n hx hb dX7_potsOf_4 rfl (lv_at hl 3 rfl) ?_
    refine lv_aload_n hx hb dX7_potsOf_5 rfl (lv_at hl 0 rfl) ?_
    refine rg_X7_58 X hW hb0 dX7_potsOf_6 ?_
    refine lv_icmp_ge (tgt := 34) hx hb dX7_potsOf_9 (by decide) (fun c9 => ?_) (fun c9 => ?_)
    · have h := (if_pos c9).symm.trans h
      refine lv_iload_n hx hb dX7_potsOf_34 rfl (lv_at hl 2 rfl) ?_
      obtain rfl := Option.some.inj h
      exact lb_iret X hW dX7_potsOf_35
    · have h := (if_neg c9).symm.trans h
      refine lv_aload_n hx hb dX7_potsOf_12 rfl (lv_at hl 0 rfl) ?_
      refine rg_X7_49 (k := (b0 + 13)) X hW hb0 rfl dX7_potsOf_13 ?_
      refine lv_iload_n hx hb dX7_potsOf_16 rfl (lv_at hl 3 rfl) ?_
      obtain ⟨i17, h⟩ := lb_chk_in h
      refine lb_ild X hW (lb_Var13 hb0) i17 dX7_potsOf_17 ?_
      refine lv_iload_n hx hb dX7_potsOf_18 rfl (lv_at hl 1 rfl) ?_
      refine lv_icmp_ne (tgt := 28) hx hb dX7_potsOf_19 (by decide) (fun c19 => ?_) (fun c19 => ?_)
      · have h := (if_neg c19).symm.trans h
        refine lv_iinc (v := (x3 + 1)) (lv' := [(3, .int (x3 + 1)), (0, .ref (lb_ad G b0)), (1, .int x1), (2, .int x2)]) hx hb dX7_potsOf_28 hl (k := 3) rfl rfl (by decide) rfl (fun ls hl => ?_)
        refine lv_goto (tgt := 4) hx hb dX7_potsOf_31 (by decide) ?_
        exact ih x1 x2 (x3 + 1) _ _ _ h hW (lv_sub hl [1, 2, 3, 0] rfl)
      · have h := (if_pos c19).symm.trans h
        refine lv_iload_n hx hb dX7_potsOf_22 rfl (lv_at hl 2 rfl) ?_
        refine lv_iconst (v := 1) hx hb dX7_potsOf_23 rfl ?_
        refine lv_iload_n hx hb dX7_potsOf_24 rfl (lv_at hl 3 rfl) ?_
        refine lv_ishl hx hb dX7_potsOf_25 ?_
        refine lv_ior hx hb dX7_potsOf_26 ?_
        refine lv_topi (fun v27 e27 => ?_)
        have h := lb_letI e27 h
        refine lv_istore_n (lv' := [(2, .int v27), (0, .ref (lb_ad G b0)), (1, .int x1), (3, .int x3)]) hx hb dX7_potsOf_27 rfl hl (by decide) rfl (fun ls hl => ?_)
        refine lv_iinc (v := (x3 + 1)) (lv' := [(3, .int (x3 + 1)), (2, .int v27), (0, .ref (lb_ad G b0)), (1, .int x1)]) hx hb dX7_potsOf_28 hl (k := 3) rfl rfl (by decide) rfl (fun ls hl => ?_)
        refine lv_goto (tgt := 4) hx hb dX7_potsOf_31 (by decide) ?_
        exact ih x1 v27 (x3 + 1) _ _ _ h hW (lv_sub hl [2, 3, 1, 0] rfl)
def f_X7_potsOf (σ : lb_Mem) (b0 : Nat) (x1 : Int32) : Option Int32 := f_X7_potsOf_4 σ b0 lb_N x1 (0 : Int32) (0 : Int32)
set_option maxRecDepth 20000 in
set_option maxHeartbeats 4000000 in
theorem m_X7_potsOf (l : Launch) (G : lb_G) (σ : lb_Mem) {b0 : Nat} (hb0 : lb_V b0) (x1 : Int32) (qr : Int32) (h : f_X7_potsOf σ b0 x1 = some qr) : lb_M l yX7_potsOf cX7_potsOf 4 (some .int) rmX7_potsOf [.ref (lb_ad G b0), .int x1] G σ (lb_QI G qr σ) := by
  refine lb_start RX7 (by decide +kernel) rfl (Nat.le_of_ble_eq_true rfl) (fun p e s m below meth c X hW ls hl => ?_)
  have hx := X.1
  have hb := X.2.1
  have hl : lv_has ls 4 [(0, .ref (lb_ad G b0)), (1, .int x1)] := hl
  have h : (f_X7_potsOf_4 σ b0 lb_N x1 (0 : Int32) (0 : Int32)) = some qr := h
  skip
  refine lv_iconst (v := 0) hx hb dX7_potsOf_0 rfl ?_
  refine lv_istore_n (lv' := [(2, .int (0 : Int32)), (0, .ref (lb_ad G b0)), (1, .int x1)]) hx hb dX7_potsOf_1 rfl hl (by decide) rfl (fun ls hl => ?_)
  refine lv_iconst (v := 0) hx hb dX7_potsOf_2 rfl ?_
  refine lv_istore_n (lv' := [(3, .int (0 : Int32)), (2, .int (0 : Int32)), (0, .ref (lb_ad G b0)), (1, .int x1)]) hx hb dX7_potsOf_3 rfl hl (by decide) rfl (fun ls hl => ?_)
  exact w_X7_potsOf_4 X hb0 lb_N x1 (0 : Int32) (0 : Int32) _ _ _ h hW (lv_sub hl [2, 3, 1, 0] rfl)
abbrev rmX7_honestPots : Room := { frames := 0, cells := 0, slots := 0, locals := 0 }
def f_X7_honestPots_4 (σ : lb_Mem) (b0 : Nat) : Nat → Int32 → Int32 → Option Int32
  | 0, _, _ => none
  | n + 1, x1, x2 => if (σ b0 9) ≤ x2 then some x1 else lb_chk (lb_ix x2 8) (lb_chk (lb_ix x2 8) (if (σ (b0 + 11) x2.toNatClampNeg) = (σ (b0 + 10) x2.toNatClampNeg) then lb_let ((x1 ||| ((1 : Int32) <<< (x2 &&& 31)))) (fun v32 : Int32 => f_X7_honestPots_4 σ b0 n v32 (x2 + 1)) else f_X7_honestPots_4 σ b0 n x1 (x2 + 1)))
set_option maxRecDepth 20000 in
set_option maxHeartbeats 4000000 in
theorem w_X7_honestPots_4 {p : Program} {l : Launch} {e : Env} {s : State} {m : MethodId} {args : Array Value} {below : List Frame} {meth : Method} {c : Code} {G : lb_G} {σ : lb_Mem} {b0 : Nat} {qr : Int32} (X : lb_C G p s m args meth c cX7_honestPots 3 RX7 (some .int)) (hb0 : lb_V b0) : ∀ (n : Nat) (x1 : Int32) (x2 : Int32) (H : Heap) (locs : List Loc) (ls : Array Slot), f_X7_honestPots_4 σ b0 n x1 x2 = some qr → lb_W G s σ H locs → lv_has ls 3 [(0, .ref (lb_ad G b0)), (1, .int x1), (2, .int x2)] → W p l e rmX7_honestPots s m args below meth c H locs 0 0 (MQ below (lb_QI G qr σ) args s 0 0 (lb_A G)) (F0 m 4 ls []) := by
  have hx := X.1
  have hb := X.2.1
  intro n
  induction n with
  | zero => intro x1 x2 H locs ls h hW hl; exact absurd h (fun z => by cases z)
  | succ n ih =>
    intro x1 x2 H locs ls h hW hl
    have h : (if (σ b0 9) ≤ x2 then some x1 else lb_chk (lb_ix x2 8) (lb_chk (lb_ix x2 8) (if (σ (b0 + 11) x2.toNatClampNeg) = (σ (b0 + 10) x2.toNatClampNeg) then lb_let ((x1 ||| ((1 : Int32) <<< (x2 &&& 31)))) (fun v32 : Int32 => f_X7_honestPots_4 σ b0 n v32 (x2 + 1)) else f_X7_honestPots_4 σ b0 n x1 (x2 + 1)))) = some qr := h
    refine lv_iload_n hx hb dX7_honestPots_4 rfl (lv_at hl 2 rfl) ?_
    refine lv_aload_n hx hb dX7_honestPots_5 rfl (lv_at hl 0 rfl) ?_
    refine rg_X7_58 X hW hb0 dX7_honestPots_6 ?_
    refine lv_icmp_ge (tgt := 39) hx hb dX7_honestPots_9 (by decide) (fun c9 => ?_) (fun c9 => ?_)
    · have h := (if_pos c9).symm.trans h
      refine lv_iload_n hx hb dX7_honestPots_39 rfl (lv_at hl 1 rfl) ?_
      obtain rfl := Option.some.inj h
      exact lb_iret X hW dX7_honestPots_40
    · have h := (if_neg c9).symm.trans h
      refine lv_aload_n hx hb dX7_honestPots_12 rfl (lv_at hl 0 rfl) ?_
      refine rg_X7_43 (k := (b0 + 11)) X hW hb0 rfl dX7_honestPots_13 ?_
      refine lv_iload_n hx hb dX7_honestPots_16 rfl (lv_at hl 2 rfl) ?_
      obtain ⟨i17, h⟩ := lb_chk_in h
      refine lb_ild X hW (lb_Var11 hb0) i17 dX7_honestPots_17 ?_
      refine lv_aload_n hx hb dX7_honestPots_18 rfl (lv_at hl 0 rfl) ?_
      refine rg_X7_40 (k := (b0 + 10)) X hW hb0 rfl dX7_honestPots_19 ?_
      refine lv_iload_n hx hb dX7_honestPots_22 rfl (lv_at hl 2 rfl) ?_
      obtain ⟨i23, h⟩ := lb_chk_in h
      refine lb_ild X hW (lb_Var10 hb0) i23 dX7_honestPots_23 ?_
      refine lv_icmp_ne (tgt := 33) hx hb dX7_honestPots_24 (by decide) (fun c24 => ?_) (fun c24 => ?_)
      · have h := (if_neg c24).symm.trans h
        refine lv_iinc (v := (x2 + 1)) (lv' := [(2, .int (x2 + 1)), (0, .ref (lb_ad G b0)), (1, .int x1)]) hx hb dX7_honestPots_33 hl (k := 2) rfl rfl (by decide) rfl (fun ls hl => ?_)
        refine lv_goto (tgt := 4) hx hb dX7_honestPots_36 (by decide) ?_
        exact ih x1 (x2 + 1) _ _ _ h hW (lv_sub hl [1, 2, 0] rfl)
      · have h := (if_pos c24).symm.trans h
        refine lv_iload_n hx hb dX7_honestPots_27 rfl (lv_at hl 1 rfl) ?_
        refine lv_iconst (v := 1) hx hb dX7_honestPots_28 rfl ?_
        refine lv_iload_n hx hb dX7_honestPots_29 rfl (lv_at hl 2 rfl) ?_
        refine lv_ishl hx hb dX7_honestPots_30 ?_
        refine lv_ior hx hb dX7_honestPots_31 ?_
        refine lv_topi (fun v32 e32 => ?_)
        have h := lb_letI e32 h
        refine lv_istore_n (lv' := [(1, .int v32), (0, .ref (lb_ad G b0)), (2, .int x2)]) hx hb dX7_honestPots_32 rfl hl (by decide) rfl (fun ls hl => ?_)
        refine lv_iinc (v := (x2 + 1)) (lv' := [(2, .int (x2 + 1)), (1, .int v32), (0, .ref (lb_ad G b0))]) hx hb dX7_honestPots_33 hl (k := 2) rfl rfl (by decide) rfl (fun ls hl => ?_)
        refine lv_goto (tgt := 4) hx hb dX7_honestPots_36 (by decide) ?_
        exact ih v32 (x2 + 1) _ _ _ h hW (lv_sub hl [2, 1, 0] rfl)
def f_X7_honestPots (σ : lb_Mem) (b0 : Nat) : Option Int32 := f_X7_honestPots_4 σ b0 lb_N (0 : Int32) (0 : Int32)
set_option maxRecDepth 20000 in
set_option maxHeartbeats 4000000 in
theorem m_X7_honestPots (l : Launch) (G : lb_G) (σ : lb_Mem) {b0 : Nat} (hb0 : lb_V b0) (qr : Int32) (h : f_X7_honestPots σ b0 = some qr) : lb_M l yX7_honestPots cX7_honestPots 3 (some .int) rmX7_honestPots [.ref (lb_ad G b0)] G σ (lb_QI G qr σ) := by
  refine lb_start RX7 (by decide +kernel) rfl (Nat.le_of_ble_eq_true rfl) (fun p e s m below meth c X hW ls hl => ?_)
  have hx := X.1
  have hb := X.2.1
  have hl : lv_has ls 3 [(0, .ref (lb_ad G b0))] := hl
  have h : (f_X7_honestPots_4 σ b0 lb_N (0 : Int32) (0 : Int32)) = some qr := h
  skip
  refine lv_iconst (v := 0) hx hb dX7_honestPots_0 rfl ?_
  refine lv_istore_n (lv' := [(1, .int (0 : Int32)), (0, .ref (lb_ad G b0))]) hx hb dX7_honestPots_1 rfl hl (by decide) rfl (fun ls hl => ?_)
  refine lv_iconst (v := 0) hx hb dX7_honestPots_2 rfl ?_
  refine lv_istore_n (lv' := [(2, .int (0 : Int32)), (1, .int (0 : Int32)), (0, .ref (lb_ad G b0))]) hx hb dX7_honestPots_3 rfl hl (by decide) rfl (fun ls hl => ?_)
  exact w_X7_honestPots_4 X hb0 lb_N (0 : Int32) (0 : Int32) _ _ _ h hW (lv_sub hl [2, 1, 0] rfl)
abbrev rmX7_hopefulPots : Room := { frames := 0, cells := 0, slots := 0, locals := 0 }
def f_X7_hopefulPots_4 (σ : lb_Mem) (b0 : Nat) : Nat → Int32 → Int32 → Option Int32
  | 0, _, _ => none
  | n + 1, x1, x2 => if (σ b0 9) ≤ x2 then some x1 else lb_chk (lb_ix x2 8) (lb_chk (lb_ix x2 8) (lb_chk (lb_ix (σ (b0 + 13) x2.toNatClampNeg) 5) (if (σ (b0 + 11) x2.toNatClampNeg) = (σ (b0 + 14) (σ (b0 + 13) x2.toNatClampNeg).toNatClampNeg) then lb_let ((x1 ||| ((1 : Int32) <<< (x2 &&& 31)))) (fun v37 : Int32 => f_X7_hopefulPots_4 σ b0 n v37 (x2 + 1)) else f_X7_hopefulPots_4 σ b0 n x1 (x2 + 1))))
set_option maxRecDepth 20000 in
set_option maxHeartbeats 4000000 in
theorem w_X7_hopefulPots_4 {p : Program} {l : Launch} {e : Env} {s : State} {m : MethodId} {args : Array Value} {below : List Frame} {meth : Method} {c : Code} {G : lb_G} {σ : lb_Mem} {b0 : Nat} {qr : Int32} (X : lb_C G p s m args meth c cX7_hopefulPots 3 RX7 (some .int)) (hb0 : lb_V b0) : ∀ (n : Nat) (x1 : Int32) (x2 : Int32) (H : Heap) (locs : List Loc) (ls : Array Slot), f_X7_hopefulPots_4 σ b0 n x1 x2 = some qr → lb_W G s σ H locs → lv_has ls 3 [(0, .ref (lb_ad G b0)), (1, .int x1), (2, .int x2)] → W p l e rmX7_hopefulPots s m args below meth c H locs 0 0 (MQ below (lb_QI G qr σ) args s 0 0 (lb_A G)) (F0 m 4 ls []) := by
  have hx := X.1
  have hb := X.2.1
  intro n
  induction n with
  | zero => intro x1 x2 H locs ls h hW hl; exact absurd h (fun z => by cases z)
  | succ n ih =>
    intro x1 x2 H locs ls h hW hl
    have h : (if (σ b0 9) ≤ x2 then some x1 else lb_chk (lb_ix x2 8) (lb_chk (lb_ix x2 8) (lb_chk (lb_ix (σ (b0 + 13) x2.toNatClampNeg) 5) (if (σ (b0 + 11) x2.toNatClampNeg) = (σ (b0 + 14) (σ (b0 + 13) x2.toNatClampNeg).toNatClampNeg) then lb_let ((x1 ||| ((1 : Int32) <<< (x2 &&& 31)))) (fun v37 : Int32 => f_X7_hopefulPots_4 σ b0 n v37 (x2 + 1)) else f_X7_hopefulPots_4 σ b0 n x1 (x2 + 1))))) = some qr := h
    refine lv_iload_n hx hb dX7_hopefulPots_4 rfl (lv_at hl 2 rfl) ?_
    refine lv_aload_n hx hb dX7_hopefulPots_5 rfl (lv_at hl 0 rfl) ?_
    refine rg_X7_58 X hW hb0 dX7_hopefulPots_6 ?_
    refine lv_icmp_ge (tgt := 44) hx hb dX7_hopefulPots_9 (by decide) (fun c9 => ?_) (fun c9 => ?_)
    · have h := (if_pos c9).symm.trans h
      refine lv_iload_n hx hb dX7_hopefulPots_44 rfl (lv_at hl 1 rfl) ?_
      obtain rfl := Option.some.inj h
      exact lb_iret X hW dX7_hopefulPots_45
    · have h := (if_neg c9).symm.trans h
      refine lv_aload_n hx hb dX7_hopefulPots_12 rfl (lv_at hl 0 rfl) ?_
      refine rg_X7_43 (k := (b0 + 11)) X hW hb0 rfl dX7_hopefulPots_13 ?_
      refine lv_iload_n hx hb dX7_hopefulPots_16 rfl (lv_at hl 2 rfl) ?_
      obtain ⟨i17, h⟩ := lb_chk_in h
      refine lb_ild X hW (lb_Var11 hb0) i17 dX7_hopefulPots_17 ?_
      refine lv_aload_n hx hb dX7_hopefulPots_18 rfl (lv_at hl 0 rfl) ?_
      refine rg_X7_52 (k := (b0 + 14)) X hW hb0 rfl dX7_hopefulPots_19 ?_
      refine lv_aload_n hx hb dX7_hopefulPots_22 rfl (lv_at hl 0 rfl) ?_
      refine rg_X7_49 (k := (b0 + 13)) X hW hb0 rfl dX7_hopefulPots_23 ?_
      refine lv_iload_n hx hb dX7_hopefulPots_26 rfl (lv_at hl 2 rfl) ?_
      obtain ⟨i27, h⟩ := lb_chk_in h
      refine lb_ild X hW (lb_Var13 hb0) i27 dX7_hopefulPots_27 ?_
      obtain ⟨i28, h⟩ := lb_chk_in h
      refine lb_ild X hW (lb_Var14 hb0) i28 dX7_hopefulPots_28 ?_
      refine lv_icmp_ne (tgt := 38) hx hb dX7_hopefulPots_29 (by decide) (fun c29 => ?_) (fun c29 => ?_)
      · have h := (if_neg c29).symm.trans h
        refine lv_iinc (v := (x2 + 1)) (lv' := [(2, .int (x2 + 1)), (0, .ref (lb_ad G b0)), (1, .int x1)]) hx hb dX7_hopefulPots_38 hl (k := 2) rfl rfl (by decide) rfl (fun ls hl => ?_)
        refine lv_goto (tgt := 4) hx hb dX7_hopefulPots_41 (by decide) ?_
        exact ih x1 (x2 + 1) _ _ _ h hW (lv_sub hl [1, 2, 0] rfl)
      · have h := (if_pos c29).symm.trans h
        refine lv_iload_n hx hb dX7_hopefulPots_32 rfl (lv_at hl 1 rfl) ?_
        refine lv_iconst (v := 1) hx hb dX7_hopefulPots_33 rfl ?_
        refine lv_iload_n hx hb dX7_hopefulPots_34 rfl (lv_at hl 2 rfl) ?_
        refine lv_ishl hx hb dX7_hopefulPots_35 ?_
        refine lv_ior hx hb dX7_hopefulPots_36 ?_
        refine lv_topi (fun v37 e37 => ?_)
        have h := lb_letI e37 h
        refine lv_istore_n (lv' := [(1, .int v37), (0, .ref (lb_ad G b0)), (2, .int x2)]) hx hb dX7_hopefulPots_37 rfl hl (by decide) rfl (fun ls hl => ?_)
        refine lv_iinc (v := (x2 + 1)) (lv' := [(2, .int (x2 + 1)), (1, .int v37), (0, .ref (lb_ad G b0))]) hx hb dX7_hopefulPots_38 hl (k := 2) rfl rfl (by decide) rfl (fun ls hl => ?_)
        refine lv_goto (tgt := 4) hx hb dX7_hopefulPots_41 (by decide) ?_
        exact ih v37 (x2 + 1) _ _ _ h hW (lv_sub hl [2, 1, 0] rfl)
def f_X7_hopefulPots (σ : lb_Mem) (b0 : Nat) : Option Int32 := f_X7_hopefulPots_4 σ b0 lb_N (0 : Int32) (0 : Int32)
set_option maxRecDepth 20000 in
set_option maxHeartbeats 4000000 in
theorem m_X7_hopefulPots (l : Launch) (G : lb_G) (σ : lb_Mem) {b0 : Nat} (hb0 : lb_V b0) (qr : Int32) (h : f_X7_hopefulPots σ b0 = some qr) : lb_M l yX7_hopefulPots cX7_hopefulPots 3 (some .int) rmX7_hopefulPots [.ref (lb_ad G b0)] G σ (lb_QI G qr σ) := by
  refine lb_start RX7 (by decide +kernel) rfl (Nat.le_of_ble_eq_true rfl) (fun p e s m below meth c X hW ls hl => ?_)
  have hx := X.1
  have hb := X.2.1
  have hl : lv_has ls 3 [(0, .ref (lb_ad G b0))] := hl
  have h : (f_X7_hopefulPots_4 σ b0 lb_N (0 : Int32) (0 : Int32)) = some qr := h
  skip
  refine lv_iconst (v := 0) hx hb dX7_hopefulPots_0 rfl ?_
  refine lv_istore_n (lv' := [(1, .int (0 : Int32)), (0, .ref (lb_ad G b0))]) hx hb dX7_hopefulPots_1 rfl hl (by decide) rfl (fun ls hl => ?_)
  refine lv_iconst (v := 0) hx hb dX7_hopefulPots_2 rfl ?_
  refine lv_istore_n (lv' := [(2, .int (0 : Int32)), (1, .int (0 : Int32)), (0, .ref (lb_ad G b0))]) hx hb dX7_hopefulPots_3 rfl hl (by decide) rfl (fun ls hl => ?_)
  exact w_X7_hopefulPots_4 X hb0 lb_N (0 : Int32) (0 : Int32) _ _ _ h hW (lv_sub hl [2, 1, 0] rfl)
abbrev rmX7_sortsHeld : Room := { frames := 0, cells := 0, slots := 0, locals := 0 }
def f_X7_sortsHeld_4 (σ : lb_Mem) (b0 : Nat) : Nat → Int32 → Int32 → Option Int32
  | 0, _, _ => none
  | n + 1, x1, x2 => if (σ b0 9) ≤ x2 then some x1 else lb_chk (lb_ix x2 8) (if (σ (b0 + 12) x2.toNatClampNeg) ≤ 0 then f_X7_sortsHeld_4 σ b0 n x1 (x2 + 1) else lb_chk (lb_ix x2 8) (lb_let ((x1 ||| ((1 : Int32) <<< ((σ (b0 + 10) x2.toNatClampNeg) &&& 31)))) (fun v31 : Int32 => f_X7_sortsHeld_4 σ b0 n v31 (x2 + 1))))
set_option maxRecDepth 20000 in
set_option maxHeartbeats 4000000 in
theorem w_X7_sortsHeld_4 {p : Program} {l : Launch} {e : Env} {s : State} {m : MethodId} {args : Array Value} {below : List Frame} {meth : Method} {c : Code} {G : lb_G} {σ : lb_Mem} {b0 : Nat} {qr : Int32} (X : lb_C G p s m args meth c cX7_sortsHeld 3 RX7 (some .int)) (hb0 : lb_V b0) : ∀ (n : Nat) (x1 : Int32) (x2 : Int32) (H : Heap) (locs : List Loc) (ls : Array Slot), f_X7_sortsHeld_4 σ b0 n x1 x2 = some qr → lb_W G s σ H locs → lv_has ls 3 [(0, .ref (lb_ad G b0)), (1, .int x1), (2, .int x2)] → W p l e rmX7_sortsHeld s m args below meth c H locs 0 0 (MQ below (lb_QI G qr σ) args s 0 0 (lb_A G)) (F0 m 4 ls []) := by
  have hx := X.1
  have hb := X.2.1
  intro n
  induction n with
  | zero => intro x1 x2 H locs ls h hW hl; exact absurd h (fun z => by cases z)
  | succ n ih =>
    intro x1 x2 H locs ls h hW hl
    have h : (if (σ b0 9) ≤ x2 then some x1 else lb_chk (lb_ix x2 8) (if (σ (b0 + 12) x2.toNatClampNeg) ≤ 0 then f_X7_sortsHeld_4 σ b0 n x1 (x2 + 1) else lb_chk (lb_ix x2 8) (lb_let ((x1 ||| ((1 : Int32) <<< ((σ (b0 + 10) x2.toNatClampNeg) &&& 31)))) (fun v31 : Int32 => f_X7_sortsHeld_4 σ b0 n v31 (x2 + 1))))) = some qr := h
    refine lv_iload_n hx hb dX7_sortsHeld_4 rfl (lv_at hl 2 rfl) ?_
    refine lv_aload_n hx hb dX7_sortsHeld_5 rfl (lv_at hl 0 rfl) ?_
    refine rg_X7_58 X hW hb0 dX7_sortsHeld_6 ?_
    refine lv_icmp_ge (tgt := 38) hx hb dX7_sortsHeld_9 (by decide) (fun c9 => ?_) (fun c9 => ?_)
    · have h := (if_pos c9).symm.trans h
      refine lv_iload_n hx hb dX7_sortsHeld_38 rfl (lv_at hl 1 rfl) ?_
      obtain rfl := Option.some.inj h
      exact lb_iret X hW dX7_sortsHeld_39
    · have h := (if_neg c9).symm.trans h
      refine lv_aload_n hx hb dX7_sortsHeld_12 rfl (lv_at hl 0 rfl) ?_
      refine rg_X7_46 (k := (b0 + 12)) X hW hb0 rfl dX7_sortsHeld_13 ?_
      refine lv_iload_n hx hb dX7_sortsHeld_16 rfl (lv_at hl 2 rfl) ?_
      obtain ⟨i17, h⟩ := lb_chk_in h
      refine lb_ild X hW (lb_Var12 hb0) i17 dX7_sortsHeld_17 ?_
      refine lv_if_le (tgt := 32) hx hb dX7_sortsHeld_18 (by decide) (fun c18 => ?_) (fun c18 => ?_)
      · have h := (if_pos c18).symm.trans h
        refine lv_iinc (v := (x2 + 1)) (lv' := [(2, .int (x2 + 1)), (0, .ref (lb_ad G b0)), (1, .int x1)]) hx hb dX7_sortsHeld_32 hl (k := 2) rfl rfl (by decide) rfl (fun ls hl => ?_)
        refine lv_goto (tgt := 4) hx hb dX7_sortsHeld_35 (by decide) ?_
        exact ih x1 (x2 + 1) _ _ _ h hW (lv_sub hl [1, 2, 0] rfl)
      · have h := (if_neg c18).symm.trans h
        refine lv_iload_n hx hb dX7_sortsHeld_21 rfl (lv_at hl 1 rfl) ?_
        refine lv_iconst (v := 1) hx hb dX7_sortsHeld_22 rfl ?_
        refine lv_aload_n hx hb dX7_sortsHeld_23 rfl (lv_at hl 0 rfl) ?_
        refine rg_X7_40 (k := (b0 + 10)) X hW hb0 rfl dX7_sortsHeld_24 ?_
        refine lv_iload_n hx hb dX7_sortsHeld_27 rfl (lv_at hl 2 rfl) ?_
        obtain ⟨i28, h⟩ := lb_chk_in h
        refine lb_ild X hW (lb_Var10 hb0) i28 dX7_sortsHeld_28 ?_
        refine lv_ishl hx hb dX7_sortsHeld_29 ?_
        refine lv_ior hx hb dX7_sortsHeld_30 ?_
        refine lv_topi (fun v31 e31 => ?_)
        have h := lb_letI e31 h
        refine lv_istore_n (lv' := [(1, .int v31), (0, .ref (lb_ad G b0)), (2, .int x2)]) hx hb dX7_sortsHeld_31 rfl hl (by decide) rfl (fun ls hl => ?_)
        refine lv_iinc (v := (x2 + 1)) (lv' := [(2, .int (x2 + 1)), (1, .int v31), (0, .ref (lb_ad G b0))]) hx hb dX7_sortsHeld_32 hl (k := 2) rfl rfl (by decide) rfl (fun ls hl => ?_)
        refine lv_goto (tgt := 4) hx hb dX7_sortsHeld_35 (by decide) ?_
        exact ih v31 (x2 + 1) _ _ _ h hW (lv_sub hl [2, 1, 0] rfl)
def f_X7_sortsHeld (σ : lb_Mem) (b0 : Nat) : Option Int32 := f_X7_sortsHeld_4 σ b0 lb_N (0 : Int32) (0 : Int32)
set_option maxRecDepth 20000 in
set_option maxHeartbeats 4000000 in
theorem m_X7_sortsHeld (l : Launch) (G : lb_G) (σ : lb_Mem) {b0 : Nat} (hb0 : lb_V b0) (qr : Int32) (h : f_X7_sortsHeld σ b0 = some qr) : lb_M l yX7_sortsHeld cX7_sortsHeld 3 (some .int) rmX7_sortsHeld [.ref (lb_ad G b0)] G σ (lb_QI G qr σ) := by
  refine lb_start RX7 (by decide +kernel) rfl (Nat.le_of_ble_eq_true rfl) (fun p e s m below meth c X hW ls hl => ?_)
  have hx := X.1
  have hb := X.2.1
  have hl : lv_has ls 3 [(0, .ref (lb_ad G b0))] := hl
  have h : (f_X7_sortsHeld_4 σ b0 lb_N (0 : Int32) (0 : Int32)) = some qr := h
  skip
  refine lv_iconst (v := 0) hx hb dX7_sortsHeld_0 rfl ?_
  refine lv_istore_n (lv' := [(1, .int (0 : Int32)), (0, .ref (lb_ad G b0))]) hx hb dX7_sortsHeld_1 rfl hl (by decide) rfl (fun ls hl => ?_)
  refine lv_iconst (v := 0) hx hb dX7_sortsHeld_2 rfl ?_
  refine lv_istore_n (lv' := [(2, .int (0 : Int32)), (1, .int (0 : Int32)), (0, .ref (lb_ad G b0))]) hx hb dX7_sortsHeld_3 rfl hl (by decide) rfl (fun ls hl => ?_)
  exact w_X7_sortsHeld_4 X hb0 lb_N (0 : Int32) (0 : Int32) _ _ _ h hW (lv_sub hl [2, 1, 0] rfl)
abbrev rmX7_sortsOnLabels : Room := { frames := 0, cells := 0, slots := 0, locals := 0 }
def f_X7_sortsOnLabels_4 (σ : lb_Mem) (b0 : Nat) : Nat → Int32 → Int32 → Option Int32
  | 0, _, _ => none
  | n + 1, x1, x2 => if (σ b0 9) ≤ x2 then some x1 else lb_chk (lb_ix x2 8) (if (σ (b0 + 11) x2.toNatClampNeg) = (6 : Int32) then f_X7_sortsOnLabels_4 σ b0 n x1 (x2 + 1) else lb_chk (lb_ix x2 8) (lb_let ((x1 ||| ((1 : Int32) <<< ((σ (b0 + 11) x2.toNatClampNeg) &&& 31)))) (fun v33 : Int32 => f_X7_sortsOnLabels_4 σ b0 n v33 (x2 + 1))))
set_option maxRecDepth 20000 in
set_option maxHeartbeats 4000000 in
theorem w_X7_sortsOnLabels_4 {p : Program} {l : Launch} {e : Env} {s : State} {m : MethodId} {args : Array Value} {below : List Frame} {meth : Method} {c : Code} {G : lb_G} {σ : lb_Mem} {b0 : Nat} {qr : Int32} (X : lb_C G p s m args meth c cX7_sortsOnLabels 3 RX7 (some .int)) (hb0 : lb_V b0) : ∀ (n : Nat) (x1 : Int32) (x2 : Int32) (H : Heap) (locs : List Loc) (ls : Array Slot), f_X7_sortsOnLabels_4 σ b0 n x1 x2 = some qr → lb_W G s σ H locs → lv_has ls 3 [(0, .ref (lb_ad G b0)), (1, .int x1), (2, .int x2)] → W p l e rmX7_sortsOnLabels s m args below meth c H locs 0 0 (MQ below (lb_QI G qr σ) args s 0 0 (lb_A G)) (F0 m 4 ls []) := by
  have hx := X.1
  have hb := X.2.1
  intro n
  induction n with
  | zero => intro x1 x2 H locs ls h hW hl; exact absurd h (fun z => by cases z)
  | succ n ih =>
    intro x1 x2 H locs ls h hW hl
    have h : (if (σ b0 9) ≤ x2 then some x1 else lb_chk (lb_ix x2 8) (if (σ (b0 + 11) x2.toNatClampNeg) = (6 : Int32) then f_X7_sortsOnLabels_4 σ b0 n x1 (x2 + 1) else lb_chk (lb_ix x2 8) (lb_let ((x1 ||| ((1 : Int32) <<< ((σ (b0 + 11) x2.toNatClampNeg) &&& 31)))) (fun v33 : Int32 => f_X7_sortsOnLabels_4 σ b0 n v33 (x2 + 1))))) = some qr := h
    refine lv_iload_n hx hb dX7_sortsOnLabels_4 rfl (lv_at hl 2 rfl) ?_
    refine lv_aload_n hx hb dX7_sortsOnLabels_5 rfl (lv_at hl 0 rfl) ?_
    refine rg_X7_58 X hW hb0 dX7_sortsOnLabels_6 ?_
    refine lv_icmp_ge (tgt := 40) hx hb dX7_sortsOnLabels_9 (by decide) (fun c9 => ?_) (fun c9 => ?_)
    · have h := (if_pos c9).symm.trans h
      refine lv_iload_n hx hb dX7_sortsOnLabels_40 rfl (lv_at hl 1 rfl) ?_
      obtain rfl := Option.some.inj h
      exact lb_iret X hW dX7_sortsOnLabels_41
    · have h := (if_neg c9).symm.trans h
      refine lv_aload_n hx hb dX7_sortsOnLabels_12 rfl (lv_at hl 0 rfl) ?_
      refine rg_X7_43 (k := (b0 + 11)) X hW hb0 rfl dX7_sortsOnLabels_13 ?_
      refine lv_iload_n hx hb dX7_sortsOnLabels_16 rfl (lv_at hl 2 rfl) ?_
      obtain ⟨i17, h⟩ := lb_chk_in h
      refine lb_ild X hW (lb_Var11 hb0) i17 dX7_sortsOnLabels_17 ?_
      refine lv_bipush (v := 6) hx hb dX7_sortsOnLabels_18 rfl ?_
      refine lv_icmp_eq (tgt := 34) hx hb dX7_sortsOnLabels_20 (by decide) (fun c20 => ?_) (fun c20 => ?_)
      · have h := (if_pos c20).symm.trans h
        refine lv_iinc (v := (x2 + 1)) (lv' := [(2, .int (x2 + 1)), (0, .ref (lb_ad G b0)), (1, .int x1)]) hx hb dX7_sortsOnLabels_34 hl (k := 2) rfl rfl (by decide) rfl (fun ls hl => ?_)
        refine lv_goto (tgt := 4) hx hb dX7_sortsOnLabels_37 (by decide) ?_
        exact ih x1 (x2 + 1) _ _ _ h hW (lv_sub hl [1, 2, 0] rfl)
      · have h := (if_neg c20).symm.trans h
        refine lv_iload_n hx hb dX7_sortsOnLabels_23 rfl (lv_at hl 1 rfl) ?_
        refine lv_iconst (v := 1) hx hb dX7_sortsOnLabels_24 rfl ?_
        refine lv_aload_n hx hb dX7_sortsOnLabels_25 rfl (lv_at hl 0 rfl) ?_
        refine rg_X7_43 (k := (b0 + 11)) X hW hb0 rfl dX7_sortsOnLabels_26 ?_
        refine lv_iload_n hx hb dX7_sortsOnLabels_29 rfl (lv_at hl 2 rfl) ?_
        obtain ⟨i30, h⟩ := lb_chk_in h
        refine lb_ild X hW (lb_Var11 hb0) i30 dX7_sortsOnLabels_30 ?_
        refine lv_ishl hx hb dX7_sortsOnLabels_31 ?_
        refine lv_ior hx hb dX7_sortsOnLabels_32 ?_
        refine lv_topi (fun v33 e33 => ?_)
        have h := lb_letI e33 h
        refine lv_istore_n (lv' := [(1, .int v33), (0, .ref (lb_ad G b0)), (2, .int x2)]) hx hb dX7_sortsOnLabels_33 rfl hl (by decide) rfl (fun ls hl => ?_)
        refine lv_iinc (v := (x2 + 1)) (lv' := [(2, .int (x2 + 1)), (1, .int v33), (0, .ref (lb_ad G b0))]) hx hb dX7_sortsOnLabels_34 hl (k := 2) rfl rfl (by decide) rfl (fun ls hl => ?_)
        refine lv_goto (tgt := 4) hx hb dX7_sortsOnLabels_37 (by decide) ?_
        exact ih v33 (x2 + 1) _ _ _ h hW (lv_sub hl [2, 1, 0] rfl)
def f_X7_sortsOnLabels (σ : lb_Mem) (b0 : Nat) : Option Int32 := f_X7_sortsOnLabels_4 σ b0 lb_N (0 : Int32) (0 : Int32)
set_option maxRecDepth 20000 in
set_option maxHeartbeats 4000000 in
theorem m_X7_sortsOnLabels (l : Launch) (G : lb_G) (σ : lb_Mem) {b0 : Nat} (hb0 : lb_V b0) (qr : Int32) (h : f_X7_sortsOnLabels σ b0 = some qr) : lb_M l yX7_sortsOnLabels cX7_sortsOnLabels 3 (some .int) rmX7_sortsOnLabels [.ref (lb_ad G b0)] G σ (lb_QI G qr σ) := by
  refine lb_start RX7 (by decide +kernel) rfl (Nat.le_of_ble_eq_true rfl) (fun p e s m below meth c X hW ls hl => ?_)
  have hx := X.1
  have hb := X.2.1
  have hl : lv_has ls 3 [(0, .ref (lb_ad G b0))] := hl
  have h : (f_X7_sortsOnLabels_4 σ b0 lb_N (0 : Int32) (0 : Int32)) = some qr := h
  skip
  refine lv_iconst (v := 0) hx hb dX7_sortsOnLabels_0 rfl ?_
  refine lv_istore_n (lv' := [(1, .int (0 : Int32)), (0, .ref (lb_ad G b0))]) hx hb dX7_sortsOnLabels_1 rfl hl (by decide) rfl (fun ls hl => ?_)
  refine lv_iconst (v := 0) hx hb dX7_sortsOnLabels_2 rfl ?_
  refine lv_istore_n (lv' := [(2, .int (0 : Int32)), (1, .int (0 : Int32)), (0, .ref (lb_ad G b0))]) hx hb dX7_sortsOnLabels_3 rfl hl (by decide) rfl (fun ls hl => ?_)
  exact w_X7_sortsOnLabels_4 X hb0 lb_N (0 : Int32) (0 : Int32) _ _ _ h hW (lv_sub hl [2, 1, 0] rfl)
