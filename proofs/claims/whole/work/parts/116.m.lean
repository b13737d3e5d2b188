theorem rc_X9_181 {p : Program} {l : Launch} {e : Env} {R : Room} {s : State} {m : MethodId} {args : Array Value} {below : List Frame} {meth : Method} {c : Code} {H : Heap} {locs : List Loc} {cells slots : Nat} {Q : State → Prop} {cc : ByteArray} {pc nL : Nat} {ls : Array Slot} {rest : List Value} {G : lb_G} {σ : lb_Mem} {ret : Option FieldType} (X : lb_C G p s m args meth c cc nL RX9 ret) (hW : lb_W G s σ H locs) {x1 : Int32} {qr : (Int64 × lb_Mem)} (h : f_X9_noWide x1 σ = some qr) (hR : lb_room rmX9_noWide R 2) (hls : ls.size = nL) (hrest : (rest.map fun v => v.category).sum ≤ 8) (d : decode cc pc = .ok (.invokevirtual 181, 3)) (hcap : cells ≤ R.cells ∧ slots ≤ R.slots) (kk : ∀ (H1 : Heap) (locs1 : List Loc), lb_W G s qr.2 H1 locs1 → W p l e R s m args below meth c H1 locs1 cells slots Q (F0 m (pc + 3) ls (.long qr.1 :: rest))) : W p l e R s m args below meth c H locs cells slots Q (F0 m pc ls (.int x1 :: .ref (lb_ad G 53) :: rest)) :=
  lb_goL hW (lb_runV (As := [.int x1]) X hW (m_X9_noWide l G σ x1 qr h) (n := 1) ⟨qw_1071, qw_52, qw_1074, by decide +kernel⟩ hR qw_1073 qw_40 lb_is53 rfl hls hrest d hcap) kk
theorem rc_X9_185 {p : Program} {l : Launch} {e : Env} {R : Room} {s : State} {m : MethodId} {args : Array Value} {below : List Frame} {meth : Method} {c : Code} {H : Heap} {locs : List Loc} {cells slots : Nat} {Q : State → Prop} {cc : ByteArray} {pc nL : Nat} {ls : Array Slot} {rest : List Value} {G : lb_G} {σ : lb_Mem} {ret : Option FieldType} (X : lb_C G p s m args meth c cc nL RX9 ret) (hW : lb_W G s σ H locs) {k0 : Nat} (hk0 : lb_ar k0 = 60 + 1) {qr : lb_Mem} (h : f_X9_errsIn k0 σ = some qr) (hR : lb_room rmX9_errsIn R 2) (hls : ls.size = nL) (hrest : (rest.map fun v => v.category).sum ≤ 8) (d : decode cc pc = .ok (.invokestatic 185, 3)) (hcap : cells ≤ R.cells ∧ slots ≤ R.slots) (kk : ∀ (H1 : Heap) (locs1 : List Loc), lb_W G s qr H1 locs1 → W p l e R s m args below meth c H1 locs1 cells slots Q (F0 m (pc + 3) ls rest)) : W p l e R s m args below meth c H locs cells slots Q (F0 m pc ls (.ref (lb_ad G k0) :: rest)) :=
  lb_goV hW (lb_runS (As := [.ref (lb_ad G k0)]) X hW (m_X9_errsIn l G σ hk0 qr h) (n := 1) ⟨qw_1076, qw_52, qw_1078, by decide +kernel⟩ hR qw_1077 rfl hls hrest d hcap) kk
theorem rc_X9_188 {p : Program} {l : Launch} {e : Env} {R : Room} {s : State} {m : MethodId} {args : Array Value} {below : List Frame} {meth : Method} {c : Code} {H : Heap} {locs : List Loc} {cells slots : Nat} {Q : State → Prop} {cc : ByteArray} {pc nL : Nat} {ls : Array Slot} {rest : List Value} {G : lb_G} {σ : lb_Mem} {ret : Option FieldType} (X : lb_C G p s m args meth c cc nL RX9 ret) (hW : lb_W G s σ H locs) {x0 : Int64} {x2 : Int64} {x4 : Int32} {qr : Int64} (h : f_X9_partOf x0 x2 x4 = some qr) (hR : lb_room rmX9_partOf R 5) (hls : ls.size = nL) (hrest : (rest.map fun v => v.category).sum ≤ 8) (d : decode cc pc = .ok (.invokestatic 188, 3)) (hcap : cells ≤ R.cells ∧ slots ≤ R.slots) (kk : ∀ (H1 : Heap) (locs1 : List Loc), lb_W G s σ H1 locs1 → W p l e R s m args below meth c H1 locs1 cells slots Q (F0 m (pc + 3) ls (.long qr :: rest))) : W p l e R s m args below meth c H locs cells slots Q (F0 m pc ls (.int x4 :: .long x2 :: .long x0 :: rest)) :=
  lb_goL hW (lb_runS (As := [.long x0, .long x2, .int x4]) X hW (m_X9_partOf l G σ x0 x2 x4 qr h) (n := 3) ⟨qw_1079, qw_52, qw_1081, by decide +kernel⟩ hR qw_1080 rfl hls hrest d hcap) kk
abbrev rmX9_errs : Room := { frames := 4, cells := 0, slots := 0, locals := 89 }
def f_X9_errs_180 (kc109 : Int32 → Int32 → Int32 → Int32 → Int32 → Int64 → Int64 → Int32 → lb_Mem → Option (Int64 × lb_Mem)) (kc134 : Int32 → Int32 → Int32 → Int32 → Int32 → Int64 → Int64 → Int32 → Int64 → Int32 → lb_Mem → Option (Int64 × lb_Mem)) (x1 : Int32) (x2 : Int32) (x3 : Int32) (x4 : Int32) (x5 : Int32) (x6 : Int64) (x8 : Int64) (x10 : Int32) (x11 : Int64) (x13 : Int32) (σ : lb_Mem) : Option (Int64 × lb_Mem) := (f_X9_year 55 σ).bind (fun s184 => kc134 x1 x2 x3 x4 x5 x6 x8 x10 x11 (x13 + 1) s184)
set_option maxRecDepth 20000 in
set_option maxHeartbeats 4000000 in
theorem w_X9_errs_180 {p : Program} {l : Launch} {e : Env} {s : State} {m : MethodId} {args : Array Value} {below : List Frame} {meth : Method} {c : Code} {G : lb_G} {qr : (Int64 × lb_Mem)} (X : lb_C G p s m args meth c cX9_errs 14 RX9 (some .long)) {kc109 : Int32 → Int32 → Int32 → Int32 → Int32 → Int64 → Int64 → Int32 → lb_Mem → Option (Int64 × lb_Mem)} {kc134 : Int32 → Int32 → Int32 → Int32 → Int32 → Int64 → Int64 → Int32 → Int64 → Int32 → lb_Mem → Option (Int64 × lb_Mem)} (hc109 : ∀ (x1 : Int32) (x2 : Int32) (x3 : Int32) (x4 : Int32) (x5 : Int32) (x6 : Int64) (x8 : Int64) (x10 : Int32) (σ : lb_Mem) (H : Heap) (locs : List Loc) (ls : Array Slot), kc109 x1 x2 x3 x4 x5 x6 x8 x10 σ = some qr → lb_W G s σ H locs → lv_has ls 14 [(0, .ref (lb_ad G 53)), (1, .int x1), (2, .int x2), (3, .int x3), (4, .int x4), (5, .int x5), (6, .long x6), (8, .long x8), (10, .int x10)] → W p l e rmX9_errs s m args below meth c H locs 0 0 (MQ below (lb_QL G qr.1 qr.2) args s 0 0 (lb_A G)) (F0 m 109 ls [])) (hc134 : ∀ (x1 : Int32) (x2 : Int32) (x3 : Int32) (x4 : Int32) (x5 : Int32) (x6 : Int64) (x8 : Int64) (x10 : Int32) (x11 : Int64) (x13 : Int32) (σ : lb_Mem) (H : Heap) (locs : List Loc) (ls : Array Slot), kc134 x1 x2 x3 x4 x5 x6 x8 x10 x11 x13 σ = some qr → lb_W G s σ H locs → lv_has ls 14 [(0, .ref (lb_ad G 53)), (1, .int x1), (2, .int x2), (3, .int x3), (4, .int x4), (5, .int x5), (6, .long x6), (8, .long x8), (10, .int x10), (11, .long x11), (13, .int x13)] → W p l e rmX9_errs s m args below meth c H locs 0 0 (MQ below (lb_QL G qr.1 qr.2) args s 0 0 (lb_A G)) (F0 m 134 ls [])) : ∀ (x1 : Int32) (x2 : Int32) (x3 : Int32) (x4 : Int32) (x5 : Int32) (x6 : Int64) (x8 : Int64) (x10 : Int32) (x11 : Int64) (x13 : Int32) (σ : lb_Mem) (H : Heap) (locs : List Loc) (ls : Array Slot), f_X9_errs_180 kc109 kc134 x1 x2 x3 x4 x5 x6 x8 x10 x11 x13 σ = some qr → lb_W G s σ H locs → lv_has ls 14 [(0, .ref (lb_ad G 53)), (1, .int x1), (2, .int x2), (3, .int x3), (4, .int x4), (5, .int x5), (6, .long x6), (8, .long x8), (10, .int x10), (11, .long x11), (13, .int x13)] → W p l e rmX9_errs s m args below meth c H locs 0 0 (MQ below (lb_QL G qr.1 qr.2) args s 0 0 (lb_A G)) (F0 m 180 ls []) := by
  have hx := X.1
  have hb := X.2.1
  intro x1 x2 x3 x4 x5 x6 x8 x10 x11 x13 σ H locs ls h hW hl
  have h : ((f_X9_year 55 σ).bind (fun s184 => kc134 x1 x2 x3 x4 x5 x6 x8 x10 x11 (x13 + 1) s184)) = some qr := h
  refine lv_aload_n hx hb dX9_errs_180 rfl (lv_at hl 0 rfl) ?_
  refine rg_X9_13 X hW dX9_errs_181 ?_
  obtain ⟨s184, e184, h⟩ := lb_bind h
  refine rc_X9_69 X hW (show lb_ar 55 = 60 + 1 from rfl) e184 ⟨⟨rfl, rfl⟩, Nat.le_of_ble_eq_true rfl, Nat.le_of_ble_eq_true rfl⟩ hl.1 (Nat.le_of_ble_eq_true rfl) dX9_errs_184 ⟨Nat.zero_le _, Nat.zero_le _⟩ (fun H locs hW => ?_)
  refine lv_iinc (v := (x13 + 1)) (lv' := [(13, .int (x13 + 1)), (0, .ref (lb_ad G 53)), (1, .int x1), (2, .int x2), (3, .int x3), (4, .int x4), (5, .int x5), (6, .long x6), (8, .long x8), (10, .int x10), (11, .long x11)]) hx hb dX9_errs_187 hl (k := 10) rfl rfl (by decide) rfl (fun ls hl => ?_)
  refine lv_goto (tgt := 134) hx hb dX9_errs_190 (by decide) ?_
  exact hc134 x1 x2 x3 x4 x5 x6 x8 x10 x11 (x13 + 1) s184 _ _ _ h hW (lv_sub hl [1, 2, 3, 4, 5, 6, 7, 8, 9, 10, 0] rfl)
def f_X9_errs_160 (kc109 : Int32 → Int32 → Int32 → Int32 → Int32 → Int64 → Int64 → Int32 → lb_Mem → Option (Int64 × lb_Mem)) (kc134 : Int32 → Int32 → Int32 → Int32 → Int32 → Int64 → Int64 → Int32 → Int64 → Int32 → lb_Mem → Option (Int64 × lb_Mem)) (x1 : Int32) (x2 : Int32) (x3 : Int32) (x4 : Int32) (x5 : Int32) (x6 : Int64) (x8 : Int64) (x10 : Int32) (x13 : Int32) (σ : lb_Mem) (y0 : Int64) (y1 : Int64) : Option (Int64 × lb_Mem) := lb_let ((y0 * y1)) (fun v161 : Int64 => if (f_X9_has x10 x13) = 0 then f_X9_errs_180 kc109 kc134 x1 x2 x3 x4 x5 x6 x8 x10 v161 x13 σ else (f_X9_errsIn 55 σ).bind (fun s177 => f_X9_errs_180 kc109 kc134 x1 x2 x3 x4 x5 x6 x8 x10 v161 x13 s177))
set_option maxRecDepth 20000 in
set_option maxHeartbeats 4000000 in
theorem w_X9_errs_160 {p : Program} {l : Launch} {e : Env} {s : State} {m : MethodId} {args : Array Value} {below : List Frame} {meth : Method} {c : Code} {G : lb_G} {qr : (Int64 × lb_Mem)} (X : lb_C G p s m args meth c cX9_errs 14 RX9 (some .long)) {kc109 : Int32 → Int32 → Int32 → Int32 → Int32 → Int64 → Int64 → Int32 → lb_Mem → Option (Int64 × lb_Mem)} {kc134 : Int32 → Int32 → Int32 → Int32 → Int32 → Int64 → Int64 → Int32 → Int64 → Int32 → lb_Mem → Option (Int64 × lb_Mem)} (hc109 : ∀ (x1 : Int32) (x2 : Int32) (x3 : Int32) (x4 : Int32) (x5 : Int32) (x6 : Int64) (x8 : Int64) (x10 : Int32) (σ : lb_Mem) (H : Heap) (locs : List Loc) (ls : Array Slot), kc109 x1 x2 x3 x4 x5 x6 x8 x10 σ = some qr → lb_W G s σ H locs → lv_has ls 14 [(0, .ref (lb_ad G 53)), (1, .int x1), (2, .int x2), (3, .int x3), (4, .int x4), (5, .int x5), (6, .long x6), (8, .long x8), (10, .int x10)] → W p l e rmX9_errs s m args below meth c H locs 0 0 (MQ below (lb_QL G qr.1 qr.2) args s 0 0 (lb_A G)) (F0 m 109 ls [])) (hc134 : ∀ (x1 : Int32) (x2 : Int32) (x3 : Int32) (x4 : Int32) (x5 : Int32) (x6 : Int64) (x8 : Int64) (x10 : Int32) (x11 : Int64) (x13 : Int32) (σ : lb_Mem) (H : Heap) (locs : List Loc) (ls : Array Slot), kc134 x1 x2 x3 x4 x5 x6 x8 x10 x11 x13 σ = some qr → lb_W G s σ H locs → lv_has ls 14 [(0, .ref (lb_ad G 53)), (1, .int x1), (2, .int x2), (3, .int x3), (4, .int x4), (5, .int x5), (6, .long x6), (8, .long x8), (10, .int x10), (11, .long x11), (13, .int x13)] → W p l e rmX9_errs s m args below meth c H locs 0 0 (MQ below (lb_QL G qr.1 qr.2) args s 0 0 (lb_A G)) (F0 m 134 ls [])) : ∀ (x1 : Int32) (x2 : Int32) (x3 : Int32) (x4 : Int32) (x5 : Int32) (x6 : Int64) (x8 : Int64) (x10 : Int32) (x13 : Int32) (σ : lb_Mem) (y0 : Int64) (y1 : Int64) (H : Heap) (locs : List Loc) (ls : Array Slot), f_X9_errs_160 kc109 kc134 x1 x2 x3 x4 x5 x6 x8 x10 x13 σ y0 y1 = some qr → lb_W G s σ H locs → lv_has ls 14 [(0, .ref (lb_ad G 53)), (1, .int x1), (2, .int x2), (3, .int x3), (4, .int x4), (5, .int x5), (6, .long x6), (8, .long x8), (10, .int x10), (13, .int x13)] → W p l e rmX9_errs s m args below meth c H locs 0 0 (MQ below (lb_QL G qr.1 qr.2) args s 0 0 (lb_A G)) (F0 m 160 ls [.long y1, .long y0]) := by
  have hx := X.1
  have hb := X.2.1
  intro x1 x2 x3 x4 x5 x6 x8 x10 x13 σ y0 y1 H locs ls h hW hl
  have h : (lb_let ((y0 * y1)) (fun v161 : Int64 => if (f_X9_has x10 x13) = 0 then f_X9_errs_180 kc109 kc134 x1 x2 x3 x4 x5 x6 x8 x10 v161 x13 σ else (f_X9_errsIn 55 σ).bind (fun s177 => f_X9_errs_180 kc109 kc134 x1 x2 x3 x4 x5 x6 x8 x10 v161 x13 s177))) = some qr := h
  refine lv_lmul hx hb dX9_errs_160 ?_
  refine lv_topl (fun v161 e161 => ?_)
  have h := lb_letI e161 h
  refine lv_lstore (lv' := [(11, .long v161), (0, .ref (lb_ad G 53)), (1, .int x1), (2, .int x2), (3, .int x3), (4, .int x4), (5, .int x5), (6, .long x6), (8, .long x8), (10, .int x10), (13, .int x13)]) hx hb dX9_errs_161 hl (by decide) rfl (fun ls hl => ?_)
  refine lv_iload hx hb dX9_errs_163 (lv_at hl 9 rfl) ?_
  refine lv_iload hx hb dX9_errs_165 (lv_at hl 10 rfl) ?_
  refine rc_X9_167 X hW x10 x13 ⟨⟨rfl, rfl⟩, Nat.le_of_ble_eq_true rfl, Nat.le_of_ble_eq_true rfl⟩ hl.1 (Nat.le_of_ble_eq_true rfl) dX9_errs_167 ⟨Nat.zero_le _, Nat.zero_le _⟩ (fun H locs hW => ?_)
  refine lv_if_eq (tgt := 180) hx hb dX9_errs_170 (by decide) (fun c170 => ?_) (fun c170 => ?_)
  · have h := (if_pos c170).symm.trans h
    exact w_X9_errs_180 X hc109 hc134 x1 x2 x3 x4 x5 x6 x8 x10 v161 x13 σ _ _ _ h hW (lv_sub hl [1, 2, 3, 4, 5, 6, 7, 8, 9, 0, 10] rfl)
  · have h := (if_neg c170).symm.trans h
    refine lv_aload_n hx hb dX9_errs_173 rfl (lv_at hl 1 rfl) ?_
    refine rg_X9_13 X hW dX9_errs_174 ?_
    obtain ⟨s177, e177, h⟩ := lb_bind h
    refine rc_X9_185 X hW (show lb_ar 55 = 60 + 1 from rfl) e177 ⟨⟨rfl, rfl⟩, Nat.le_of_ble_eq_true rfl, Nat.le_of_ble_eq_true rfl⟩ hl.1 (Nat.le_of_ble_eq_true rfl) dX9_errs_177 ⟨Nat.zero_le _, Nat.zero_le _⟩ (fun H locs hW => ?_)
    exact w_X9_errs_180 X hc109 hc134 x1 x2 x3 x4 x5 x6 x8 x10 v161 x13 s177 _ _ _ h hW (lv_sub hl [1, 2, 3, 4, 5, 6, 7, 8, 9, 0, 10] rfl)
def f_X9_errs_134 (kc109 : Int32 → Int32 → Int32 → Int32 → Int32 → Int64 → Int64 → Int32 → lb_Mem → Option (Int64 × lb_Mem)) : Nat → Int32 → Int32 → Int32 → Int32 → Int32 → Int64 → Int64 → Int32 → Int64 → Int32 → lb_Mem → Option (Int64 × lb_Mem)
  | 0, _, _, _, _, _, _, _, _, _, _, _ => none
  | n + 1, x1, x2, x3, x4, x5, x6, x8, x10, x11, x13, σ => if x2 ≤ x13 then lb_chk (lb_ix (f_X9_ofP x1 (1 : Int32)) 61) (if (σ 55 (f_X9_ofP x1 (1 : Int32)).toNatClampNeg) < x4 then lb_let ((x6 + (0 : Int64))) (fun v217 : Int64 => kc109 x1 x2 x3 x4 x5 v217 x8 (x10 + 1) σ) else lb_let ((x6 + x11)) (fun v217 : Int64 => kc109 x1 x2 x3 x4 x5 v217 x8 (x10 + 1) σ)) else if (f_X9_has x10 x13) = 0 then f_X9_errs_160 kc109 (fun (x1 : Int32) (x2 : Int32) (x3 : Int32) (x4 : Int32) (x5 : Int32) (x6 : Int64) (x8 : Int64) (x10 : Int32) (x11 : Int64) (x13 : Int32) (σ : lb_Mem) => f_X9_errs_134 kc109 n x1 x2 x3 x4 x5 x6 x8 x10 x11 x13 σ) x1 x2 x3 x4 x5 x6 x8 x10 x13 σ x11 ((x3 - (1 : Int32)).toInt64) else f_X9_errs_160 kc109 (fun (x1 : Int32) (x2 : Int32) (x3 : Int32) (x4 : Int32) (x5 : Int32) (x6 : Int64) (x8 : Int64) (x10 : Int32) (x11 : Int64) (x13 : Int32) (σ : lb_Mem) => f_X9_errs_134 kc109 n x1 x2 x3 x4 x5 x6 x8 x10 x11 x13 σ) x1 x2 x3 x4 x5 x6 x8 x10 x13 σ x11 (1 : Int64)
set_option maxRecDepth 20000 in
set_option maxHeartbeats 4000000 in
theorem w_X9_errs_134 {p : Program} {l : Launch} {e : Env} {s : State} {m : MethodId} {args : Array Value} {below : List Frame} {meth : Method} {c : Code} {G : lb_G} {qr : (Int64 × lb_Mem)} (X : lb_C G p s m args meth c cX9_errs 14 RX9 (some .long)) {kc109 : Int32 → Int32 → Int32 → Int32 → Int32 → Int64 → Int64 → Int32 → lb_Mem → Option (Int64 × lb_Mem)} (hc109 : ∀ (x1 : Int32) (x2 : Int32) (x3 : Int32) (x4 : Int32) (x5 : Int32) (x6 : Int64) (x8 : Int64) (x10 : Int32) (σ : lb_Mem) (H : Heap) (locs : List Loc) (ls : Array Slot), kc109 x1 x2 x3 x4 x5 x6 x8 x10 σ = some qr → lb_W G s σ H locs → lv_has ls 14 [(0, .ref (lb_ad G 53)), (1, .int x1), (2, .int x2), (3, .int x3), (4, .int x4), (5, .int x5), (6, .long x6), (8, .long x8), (10, .int x10)] → W p l e rmX9_errs s m args below meth c H locs 0 0 (MQ below (lb_QL G qr.1 qr.2) args s 0 0 (lb_A G)) (F0 m 109 ls [])) : ∀ (n : Nat) (x1 : Int32) (x2 : Int32) (x3 : Int32) (x4 : Int32) (x5 : Int32) (x6 : Int64) (x8 : Int64) (x10 : Int32) (x11 : Int64) (x13 : Int32) (σ : lb_Mem) (H : Heap) (locs : List Loc) (ls : Array Slot), f_X9_errs_134 kc109 n x1 x2 x3 x4 x5 x6 x8 x10 x11 x13 σ = some qr → lb_W G s σ H locs → lv_has ls 14 [(0, .ref (lb_ad G 53)), (1, .int x1), (2, .int x2), (3, .int x3), (4, .int x4), (5, .int x5), (6, .long x6), (8, .long x8), (10, .int x10), (11, .long x11), (13, .int x13)] → W p l e rmX9_errs s m args below meth c H locs 0 0 (MQ below (lb_QL G qr.1 qr.2) args s 0 0 (lb_A G)) (F0 m 134 ls []) := by
  have hx := X.1
  have hb := X.2.1
  intro n
  induction n with
  | zero => intro x1 x2 x3 x4 x5 x6 x8 x10 x11 x13 σ H locs ls h hW hl; exact absurd h (fun z => by cases z)
  | succ n ih =>
    intro x1 x2 x3 x4 x5 x6 x8 x10 x11 x13 σ H locs ls h hW hl
    have h : (if x2 ≤ x13 then lb_chk (lb_ix (f_X9_ofP x1 (1 : Int32)) 61) (if (σ 55 (f_X9_ofP x1 (1 : Int32)).toNatClampNeg) < x4 then lb_let ((x6 + (0 : Int64))) (fun v217 : Int64 => kc109 x1 x2 x3 x4 x5 v217 x8 (x10 + 1) σ) else lb_let ((x6 + x11)) (fun v217 : Int64 => kc109 x1 x2 x3 x4 x5 v217 x8 (x10 + 1) σ)) else if (f_X9_has x10 x13) = 0 then f_X9_errs_160 kc109 (fun (x1 : Int32) (x2 : Int32) (x3 : Int32) (x4 : Int32) (x5 : Int32) (x6 : Int64) (x8 : Int64) (x10 : Int32) (x11 : Int64) (x13 : Int32) (σ : lb_Mem) => f_X9_errs_134 kc109 n x1 x2 x3 x4 x5 x6 x8 x10 x11 x13 σ) x1 x2 x3 x4 x5 x6 x8 x10 x13 σ x11 ((x3 - (1 : Int32)).toInt64) else f_X9_errs_160 kc109 (fun (x1 : Int32) (x2 : Int32) (x3 : Int32) (x4 : Int32) (x5 : Int32) (x6 : Int64) (x8 : Int64) (x10 : Int32) (x11 : Int64) (x13 : Int32) (σ : lb_Mem) => f_X9_errs_134 kc109 n x1 x2 x3 x4 x5 x6 x8 x10 x11 x13 σ) x1 x2 x3 x4 x5 x6 x8 x10 x13 σ x11 (1 : Int64)) = some qr := h
    refine lv_iload hx hb dX9_errs_134 (lv_at hl 10 rfl) ?_
    refine lv_iload_n hx hb dX9_errs_136 rfl (lv_at hl 2 rfl) ?_
    refine lv_icmp_ge (tgt := 193) hx hb dX9_errs_137 (by decide) (fun c137 => ?_) (fun c137 => ?_)
    · have h := (if_pos c137).symm.trans h
      refine lv_lload hx hb dX9_errs_193 (lv_at hl 6 rfl) ?_
      refine lv_aload_n hx hb dX9_errs_195 rfl (lv_at hl 0 rfl) ?_
      refine rg_X9_13 X hW dX9_errs_196 ?_
      refine lv_iload_n hx hb dX9_errs_199 rfl (lv_at hl 1 rfl) ?_
      refine lv_iconst (v := 1) hx hb dX9_errs_200 rfl ?_
      refine rc_X9_52 X hW x1 (1 : Int32) ⟨⟨rfl, rfl⟩, Nat.le_of_ble_eq_true rfl, Nat.le_of_ble_eq_true rfl⟩ hl.1 (Nat.le_of_ble_eq_true rfl) dX9_errs_201 ⟨Nat.zero_le _, Nat.zero_le _⟩ (fun H locs hW => ?_)
      obtain ⟨i204, h⟩ := lb_chk_in h
      refine lb_ild X hW (show lb_ar 55 = 60 + 1 from rfl) i204 dX9_errs_204 ?_
      refine lv_iload hx hb dX9_errs_205 (lv_at hl 4 rfl) ?_
      refine lv_icmp_lt (tgt := 215) hx hb dX9_errs_207 (by decide) (fun c207 => ?_) (fun c207 => ?_)
      · have h := (if_pos c207).symm.trans h
        refine lv_lconst (v := 0) hx hb dX9_errs_215 rfl ?_
        refine lv_ladd hx hb dX9_errs_216 ?_
        refine lv_topl (fun v217 e217 => ?_)
        have h := lb_letI e217 h
        refine lv_lstore (lv' := [(6, .long v217), (0, .ref (lb_ad G 53)), (1, .int x1), (2, .int x2), (3, .int x3), (4, .int x4), (5, .int x5), (8, .long x8), (10, .int x10), (11, .long x11), (13, .int x13)]) hx hb dX9_errs_217 hl (by decide) rfl (fun ls hl => ?_)
        refine lv_iinc (v := (x10 + 1)) (lv' := [(10, .int (x10 + 1)), (6, .long v217), (0, .ref (lb_ad G 53)), (1, .int x1), (2, .int x2), (3, .int x3), (4, .int x4), (5, .int x5), (8, .long x8), (11, .long x11), (13, .int x13)]) hx hb dX9_errs_219 hl (k := 8) rfl rfl (by decide) rfl (fun ls hl => ?_)
        refine lv_goto (tgt := 109) hx hb dX9_errs_222 (by decide) ?_
        exact hc109 x1 x2 x3 x4 x5 v217 x8 (x10 + 1) σ _ _ _ h hW (lv_sub hl [2, 3, 4, 5, 6, 7, 1, 8, 0] rfl)
      · have h := (if_neg c207).symm.trans h
        refine lv_lload hx hb dX9_errs_210 (lv_at hl 9 rfl) ?_
        refine lv_goto (tgt := 216) hx hb dX9_errs_212 (by decide) ?_
        refine lv_ladd hx hb dX9_errs_216 ?_
        refine lv_topl (fun v217 e217 => ?_)
        have h := lb_letI e217 h
        refine lv_lstore (lv' := [(6, .long v217), (0, .ref (lb_ad G 53)), (1, .int x1), (2, .int x2), (3, .int x3), (4, .int x4), (5, .int x5), (8, .long x8), (10, .int x10), (11, .long x11), (13, .int x13)]) hx hb dX9_errs_217 hl (by decide) rfl (fun ls hl => ?_)
        refine lv_iinc (v := (x10 + 1)) (lv' := [(10, .int (x10 + 1)), (6, .long v217), (0, .ref (lb_ad G 53)), (1, .int x1), (2, .int x2), (3, .int x3), (4, .int x4), (5, .int x5), (8, .long x8), (11, .long x11), (13, .int x13)]) hx hb dX9_errs_219 hl (k := 8) rfl rfl (by decide) rfl (fun ls hl => ?_)
        refine lv_goto (tgt := 109) hx hb dX9_errs_222 (by decide) ?_
        exact hc109 x1 x2 x3 x4 x5 v217 x8 (x10 + 1) σ _ _ _ h hW (lv_sub hl [2, 3, 4, 5, 6, 7, 1, 8, 0] rfl)
    · have h := (if_neg c137).symm.trans h
      refine lv_lload hx hb dX9_errs_140 (lv_at hl 9 rfl) ?_
      refine lv_iload hx hb dX9_errs_142 (lv_at hl 8 rfl) ?_
      refine lv_iload hx hb dX9_errs_144 (lv_at hl 10 rfl) ?_
      refine rc_X9_167 X hW x10 x13 ⟨⟨rfl, rfl⟩, Nat.le_of_ble_eq_true rfl, Nat.le_of_ble_eq_true rfl⟩ hl.1 (Nat.le_of_ble_eq_true rfl) dX9_errs_146 ⟨Nat.zero_le _, Nat.zero_le _⟩ (fun H locs hW => ?_)
      refine lv_if_eq (tgt := 156) hx hb dX9_errs_149 (by decide) (fun c149 => ?_) (fun c149 => ?_)
      · have h := (if_pos c149).symm.trans h
        refine lv_iload_n hx hb dX9_errs_156 rfl (lv_at hl 3 rfl) ?_
        refine lv_iconst (v := 1) hx hb dX9_errs_157 rfl ?_
        refine lv_isub hx hb dX9_errs_158 ?_
        refine lv_i2l (v := (x3 - (1 : Int32)).toInt64) hx hb dX9_errs_159 rfl ?_
        exact w_X9_errs_160 X hc109 ih x1 x2 x3 x4 x5 x6 x8 x10 x13 σ x11 ((x3 - (1 : Int32)).toInt64) _ _ _ h hW (lv_sub hl [0, 1, 2, 3, 4, 5, 6, 7, 8, 10] rfl)
      · have h := (if_neg c149).symm.trans h
        refine lv_lconst (v := 1) hx hb dX9_errs_152 rfl ?_
        refine lv_goto (tgt := 160) hx hb dX9_errs_153 (by decide) ?_
        exact w_X9_errs_160 X hc109 ih x1 x2 x3 x4 x5 x6 x8 x10 x13 σ x11 (1 : Int64) _ _ _ h hW (lv_sub hl [0, 1, 2, 3, 4, 5, 6, 7, 8, 10] rfl)
def f_X9_errs_109 : Nat → Int32 → Int32 → Int32 → Int32 → Int32 → Int64 → Int64 → Int32 → lb_Mem → Option (Int64 × lb_Mem)
  | 0, _, _, _, _, _, _, _, _, _ => none
  | n + 1, x1, x2, x3, x4, x5, x6, x8, x10, σ => if ((1 : Int32) <<< (x2 &&& 31)) ≤ x10 then (f_X9_partOf x6 x8 x5).bind (fun q231 => some (q231, σ)) else (f_X9_copies 54 55 σ).bind (fun s128 => f_X9_errs_134 (fun (x1 : Int32) (x2 : Int32) (x3 : Int32) (x4 : Int32) (x5 : Int32) (x6 : Int64) (x8 : Int64) (x10 : Int32) (σ : lb_Mem) => f_X9_errs_109 n x1 x2 x3 x4 x5 x6 x8 x10 σ) lb_N x1 x2 x3 x4 x5 x6 x8 x10 (1 : Int64) (0 : Int32) s128)
set_option maxRecDepth 20000 in
set_option maxHeartbeats 4000000 in
theorem w_X9_errs_109 {p : Program} {l : Launch} {e : Env} {s : State} {m : MethodId} {args : Array Value} {below : List Frame} {meth : Method} {c : Code} {G : lb_G} {qr : (Int64 × lb_Mem)} (X : lb_C G p s m args meth c cX9_errs 14 RX9 (some .long)) : ∀ (n : Nat) (x1 : Int32) (x2 : Int32) (x3 : Int32) (x4 : Int32) (x5 : Int32) (x6 : Int64) (x8 : Int64) (x10 : Int32) (σ : lb_Mem) (H : Heap) (locs : List Loc) (ls : Array Slot), f_X9_errs_109 n x1 x2 x3 x4 x5 x6 x8 x10 σ = some qr → lb_W G s σ H locs → lv_has ls 14 [(0, .ref (lb_ad G 53)), (1, .int x1), (2, .int x2), (3, .int x3), (4, .int x4), (5, .int x5), (6, .long x6), (8, .long x8), (10, .int x10)] → W p l e rmX9_errs s m args below meth c H locs 0 0 (MQ below (lb_QL G qr.1 qr.2) args s 0 0 (lb_A G)) (F0 m 109 ls []) := by
  have hx := X.1
  have hb := X.2.1
  intro n
  induction n with
  | zero => intro x1 x2 x3 x4 x5 x6 x8 x10 σ H locs ls h hW hl; exact absurd h (fun z => by cases z)
  | succ n ih =>
    intro x1 x2 x3 x4 x5 x6 x8 x10 σ H locs ls h hW hl
    have h : (if ((1 : Int32) <<< (x2 &&& 31)) ≤ x10 then (f_X9_partOf x6 x8 x5).bind (fun q231 => some (q231, σ)) else (f_X9_copies 54 55 σ).bind (fun s128 => f_X9_errs_134 (fun (x1 : Int32) (x2 : Int32) (x3 : Int32) (x4 : Int32) (x5 : Int32) (x6 : Int64) (x8 : Int64) (x10 : Int32) (σ : lb_Mem) => f_X9_errs_109 n x1 x2 x3 x4 x5 x6 x8 x10 σ) lb_N x1 x2 x3 x4 x5 x6 x8 x10 (1 : Int64) (0 : Int32) s128)) = some qr := h
    refine lv_iload hx hb dX9_errs_109 (lv_at hl 8 rfl) ?_
    refine lv_iconst (v := 1) hx hb dX9_errs_111 rfl ?_
    refine lv_iload_n hx hb dX9_errs_112 rfl (lv_at hl 2 rfl) ?_
    refine lv_ishl hx hb dX9_errs_113 ?_
    refine lv_icmp_ge (tgt := 225) hx hb dX9_errs_114 (by decide) (fun c114 => ?_) (fun c114 => ?_)
    · have h := (if_pos c114).symm.trans h
      refine lv_lload hx hb dX9_errs_225 (lv_at hl 6 rfl) ?_
      refine lv_lload hx hb dX9_errs_227 (lv_at hl 7 rfl) ?_
      refine lv_iload hx hb dX9_errs_229 (lv_at hl 5 rfl) ?_
      obtain ⟨q231, e231, h⟩ := lb_bind h
      refine rc_X9_188 X hW e231 ⟨⟨rfl, rfl⟩, Nat.le_of_ble_eq_true rfl, Nat.le_of_ble_eq_true rfl⟩ hl.1 (Nat.le_of_ble_eq_true rfl) dX9_errs_231 ⟨Nat.zero_le _, Nat.zero_le _⟩ (fun H locs hW => ?_)
      obtain rfl := Option.some.inj h
      exact lb_lret X hW dX9_errs_234
    · have h := (if_neg c114).symm.trans h
      refine lv_lconst (v := 1) hx hb dX9_errs_117 rfl ?_
      refine lv_lstore (lv' := [(11, .long (1 : Int64)), (0, .ref (lb_ad G 53)), (1, .int x1), (2, .int x2), (3, .int x3), (4, .int x4), (5, .int x5), (6, .long x6), (8, .long x8), (10, .int x10)]) hx hb dX9_errs_118 hl (by decide) rfl (fun ls hl => ?_)
      refine lv_aload_n hx hb dX9_errs_120 rfl (lv_at hl 1 rfl) ?_
      refine rg_X9_9 X hW dX9_errs_121 ?_
      refine lv_aload_n hx hb dX9_errs_124 rfl (lv_at hl 1 rfl) ?_
      refine rg_X9_13 X hW dX9_errs_125 ?_
      obtain ⟨s128, e128, h⟩ := lb_bind h
      refine rc_X9_112 X hW (show lb_ar 54 = 60 + 1 from rfl) (show lb_ar 55 = 60 + 1 from rfl) e128 ⟨⟨rfl, rfl⟩, Nat.le_of_ble_eq_true rfl, Nat.le_of_ble_eq_true rfl⟩ hl.1 (Nat.le_of_ble_eq_true rfl) dX9_errs_128 ⟨Nat.zero_le _, Nat.zero_le _⟩ (fun H locs hW => ?_)
      refine lv_iconst (v := 0) hx hb dX9_errs_131 rfl ?_
      refine lv_istore (lv' := [(13, .int (0 : Int32)), (11, .long (1 : Int64)), (0, .ref (lb_ad G 53)), (1, .int x1), (2, .int x2), (3, .int x3), (4, .int x4), (5, .int x5), (6, .long x6), (8, .long x8), (10, .int x10)]) hx hb dX9_errs_132 hl (by decide) rfl (fun ls hl => ?_)
      exact w_X9_errs_134 X ih lb_N x1 x2 x3 x4 x5 x6 x8 x10 (1 : Int64) (0 : Int32) s128 _ _ _ h hW (lv_sub hl [2, 3, 4, 5, 6, 7, 8, 9, 10, 1, 0] rfl)
def f_X9_errs_87 : Nat → Int32 → Int32 → Int32 → Int32 → Int32 → Int64 → Int64 → Int32 → lb_Mem → Option (Int64 × lb_Mem)
  | 0, _, _, _, _, _, _, _, _, _ => none
  | n + 1, x1, x2, x3, x4, x5, x6, x8, x10, σ => if x2 ≤ x10 then f_X9_errs_109 lb_N x1 x2 x3 x4 x5 x6 x8 (0 : Int32) σ else lb_let ((x8 * (x3.toInt64))) (fun v98 : Int64 => f_X9_errs_87 n x1 x2 x3 x4 x5 x6 v98 (x10 + 1) σ)
set_option maxRecDepth 20000 in
set_option maxHeartbeats 4000000 in
theorem w_X9_errs_87 {p : Program} {l : Launch} {e : Env} {s : State} {m : MethodId} {args : Array Value} {below : List Frame} {meth : Method} {c : Code} {G : lb_G} {qr : (Int64 × lb_Mem)} (X : lb_C G p s m args meth c cX9_errs 14 RX9 (some .long)) : ∀ (n : Nat) (x1 : Int32) (x2 : Int32) (x3 : Int32) (x4 : Int32) (x5 : Int32) (x6 : Int64) (x8 : Int64) (x10 : Int32) (σ : lb_Mem) (H : Heap) (locs : List Loc) (ls : Array Slot), f_X9_errs_87 n x1 x2 x3 x4 x5 x6 x8 x10 σ = some qr → lb_W G s σ H locs → lv_has ls 14 [(0, .ref (lb_ad G 53)), (1, .int x1), (2, .int x2), (3, .int x3), (4, .int x4), (5, .int x5), (6, .long x6), (8, .long x8), (10, .int x10)] → W p l e rmX9_errs s m args below meth c H locs 0 0 (MQ below (lb_QL G qr.1 qr.2) args s 0 0 (lb_A G)) (F0 m 87 ls []) := by
  have hx := X.1
  have hb := X.2.1
  intro n
  induction n with
  | zero => intro x1 x2 x3 x4 x5 x6 x8 x10 σ H locs ls h hW hl; exact absurd h (fun z => by cases z)
  | succ n ih =>
    intro x1 x2 x3 x4 x5 x6 x8 x10 σ H locs ls h hW hl
    have h : (if x2 ≤ x10 then f_X9_errs_109 lb_N x1 x2 x3 x4 x5 x6 x8 (0 : Int32) σ else lb_let ((x8 * (x3.toInt64))) (fun v98 : Int64 => f_X9_errs_87 n x1 x2 x3 x4 x5 x6 v98 (x10 + 1) σ)) = some qr := h
    refine lv_iload hx hb dX9_errs_87 (lv_at hl 8 rfl) ?_
    refine lv_iload_n hx hb dX9_errs_89 rfl (lv_at hl 2 rfl) ?_
    refine lv_icmp_ge (tgt := 106) hx hb dX9_errs_90 (by decide) (fun c90 => ?_) (fun c90 => ?_)
    · have h := (if_pos c90).symm.trans h
      refine lv_iconst (v := 0) hx hb dX9_errs_106 rfl ?_
      refine lv_istore (lv' := [(10, .int (0 : Int32)), (0, .ref (lb_ad G 53)), (1, .int x1), (2, .int x2), (3, .int x3), (4, .int x4), (5, .int x5), (6, .long x6), (8, .long x8)]) hx hb dX9_errs_107 hl (by decide) rfl (fun ls hl => ?_)
      exact w_X9_errs_109 X lb_N x1 x2 x3 x4 x5 x6 x8 (0 : Int32) σ _ _ _ h hW (lv_sub hl [1, 2, 3, 4, 5, 6, 7, 8, 0] rfl)
    · have h := (if_neg c90).symm.trans h
      refine lv_lload hx hb dX9_errs_93 (lv_at hl 7 rfl) ?_
      refine lv_iload_n hx hb dX9_errs_95 rfl (lv_at hl 3 rfl) ?_
      refine lv_i2l (v := x3.toInt64) hx hb dX9_errs_96 rfl ?_
      refine lv_lmul hx hb dX9_errs_97 ?_
      refine lv_topl (fun v98 e98 => ?_)
      have h := lb_letI e98 h
      refine lv_lstore (lv' := [(8, .long v98), (0, .ref (lb_ad G 53)), (1, .int x1), (2, .int x2), (3, .int x3), (4, .int x4), (5, .int x5), (6, .long x6), (10, .int x10)]) hx hb dX9_errs_98 hl (by decide) rfl (fun ls hl => ?_)
      refine lv_iinc (v := (x10 + 1)) (lv' := [(10, .int (x10 + 1)), (8, .long v98), (0, .ref (lb_ad G 53)), (1, .int x1), (2, .int x2), (3, .int x3), (4, .int x4), (5, .int x5), (6, .long x6)]) hx hb dX9_errs_100 hl (k := 8) rfl rfl (by decide) rfl (fun ls hl => ?_)
      refine lv_goto (tgt := 87) hx hb dX9_errs_103 (by decide) ?_
      exact ih x1 x2 x3 x4 x5 x6 v98 (x10 + 1) σ _ _ _ h hW (lv_sub hl [2, 3, 4, 5, 6, 7, 8, 1, 0] rfl)
def f_X9_errs_54 (σ : lb_Mem) : Option (Int64 × lb_Mem) := (f_X9_noWide (-6 : Int32) σ).bind (fun q57 => some (q57.1, q57.2))
set_option maxRecDepth 20000 in
set_option maxHeartbeats 4000000 in
theorem w_X9_errs_54 {p : Program} {l : Launch} {e : Env} {s : State} {m : MethodId} {args : Array Value} {below : List Frame} {meth : Method} {c : Code} {G : lb_G} {qr : (Int64 × lb_Mem)} (X : lb_C G p s m args meth c cX9_errs 14 RX9 (some .long)) : ∀ (σ : lb_Mem) (H : Heap) (locs : List Loc) (ls : Array Slot), f_X9_errs_54 σ = some qr → lb_W G s σ H locs → lv_has ls 14 [(0, .ref (lb_ad G 53))] → W p l e rmX9_errs s m args below meth c H locs 0 0 (MQ below (lb_QL G qr.1 qr.2) args s 0 0 (lb_A G)) (F0 m 54 ls []) := by
  have hx := X.1
  have hb := X.2.1
  intro σ H locs ls h hW hl
  have h : ((f_X9_noWide (-6 : Int32) σ).bind (fun q57 => some (q57.1, q57.2))) = some qr := h
  refine lv_aload_n hx hb dX9_errs_54 rfl (lv_at hl 0 rfl) ?_
  refine lv_bipush (v := -6) hx hb dX9_errs_55 rfl ?_
  obtain ⟨q57, e57, h⟩ := lb_bind h
  refine rc_X9_181 X hW e57 ⟨⟨rfl, rfl⟩, Nat.le_of_ble_eq_true rfl, Nat.le_of_ble_eq_true rfl⟩ hl.1 (Nat.le_of_ble_eq_true rfl) dX9_errs_57 ⟨Nat.zero_le _, Nat.zero_le _⟩ (fun H locs hW => ?_)
  obtain rfl := Option.some.inj h
  exact lb_lret X hW dX9_errs_60
def f_X9_errs_28 (σ : lb_Mem) : Option (Int64 × lb_Mem) := (f_X9_noWide (-4 : Int32) σ).bind (fun q31 => some (q31.1, q31.2))
set_option maxRecDepth 20000 in
set_option maxHeartbeats 4000000 in
theorem w_X9_errs_28 {p : Program} {l : Launch} {e : Env} {s : State} {m : MethodId} {args : Array Value} {below : List Frame} {meth : Method} {c : Code} {G : lb_G} {qr : (Int64 × lb_Mem)} (X : lb_C G p s m args meth c cX9_errs 14 RX9 (some .long)) : ∀ (σ : lb_Mem) (H : Heap) (locs : List Loc) (ls : Array Slot), f_X9_errs_28 σ = some qr → lb_W G s σ H locs → lv_has ls 14 [(0, .ref (lb_ad G 53))] → W p l e rmX9_errs s m args below meth c H locs 0 0 (MQ below (lb_QL G qr.1 qr.2) args s 0 0 (lb_A G)) (F0 m 28 ls []) := by
  have hx := X.1
  have hb := X.2.1
  intro σ H locs ls h hW hl
  have h : ((f_X9_noWide (-4 : Int32) σ).bind (fun q31 => some (q31.1, q31.2))) = some qr := h
  refine lv_aload_n hx hb dX9_errs_28 rfl (lv_at hl 0 rfl) ?_
  refine lv_bipush (v := -4) hx hb dX9_errs_29 rfl ?_
  obtain ⟨q31, e31, h⟩ := lb_bind h
  refine rc_X9_181 X hW e31 ⟨⟨rfl, rfl⟩, Nat.le_of_ble_eq_true rfl, Nat.le_of_ble_eq_true rfl⟩ hl.1 (Nat.le_of_ble_eq_true rfl) dX9_errs_31 ⟨Nat.zero_le _, Nat.zero_le _⟩ (fun H locs hW => ?_)
  obtain rfl := Option.some.inj h
  exact lb_lret X hW dX9_errs_34
def f_X9_errs (x1 : Int32) (x2 : Int32) (x3 : Int32) (x4 : Int32) (x5 : Int32) (σ : lb_Mem) : Option (Int64 × lb_Mem) := if (f_X9_isPerson σ x1) = 0 then (f_X9_noWide (-1 : Int32) σ).bind (fun q10 => some (q10.1, q10.2)) else if x2 < 0 then f_X9_errs_28 σ else if x4 < 0 then f_X9_errs_28 σ else if (2 : Int32) ≤ x3 then if (7 : Int32) < x2 then f_X9_errs_54 σ else if (20 : Int32) < x3 then f_X9_errs_54 σ else if x4 ≤ (99 : Int32) then if (f_X9_isIn x5 (0 : Int32) (1 : Int32)) = 0 then (f_X9_noWide (-2 : Int32) σ).bind (fun q74 => some (q74.1, q74.2)) else f_X9_errs_87 lb_N x1 x2 x3 x4 x5 (0 : Int64) (1 : Int64) (0 : Int32) σ else f_X9_errs_54 σ else f_X9_errs_28 σ
set_option maxRecDepth 20000 in
set_option maxHeartbeats 4000000 in
theorem m_X9_errs (l : Launch) (G : lb_G) (σ : lb_Mem) (x1 : Int32) (x2 : Int32) (x3 : Int32) (x4 : Int32) (x5 : Int32) (qr : (Int64 × lb_Mem)) (h : f_X9_errs x1 x2 x3 x4 x5 σ = some qr) : lb_M l yX9_errs cX9_errs 14 (some .long) rmX9_errs [.ref (lb_ad G 53), .int x1, .int x2, .int x3, .int x4, .int x5] G σ (lb_QL G qr.1 qr.2) := by
  refine lb_start RX9 (by decide +kernel) rfl (Nat.le_of_ble_eq_true rfl) (fun p e s m below meth c X hW ls hl => ?_)
  have hx := X.1
  have hb := X.2.1
  have hl : lv_has ls 14 [(0, .ref (lb_ad G 53)), (1, .int x1), (2, .int x2), (3, .int x3), (4, .int x4), (5, .int x5)] := hl
  have h : (if (f_X9_isPerson σ x1) = 0 then (f_X9_noWide (-1 : Int32) σ).bind (fun q10 => some (q10.1, q10.2)) else if x2 < 0 then f_X9_errs_28 σ else if x4 < 0 then f_X9_errs_28 σ else if (2 : Int32) ≤ x3 then if (7 : Int32) < x2 then f_X9_errs_54 σ else if (20 : Int32) < x3 then f_X9_errs_54 σ else if x4 ≤ (99 : Int32) then if (f_X9_isIn x5 (0 : Int32) (1 : Int32)) = 0 then (f_X9_noWide (-2 : Int32) σ).bind (fun q74 => some (q74.1, q74.2)) else f_X9_errs_87 lb_N x1 x2 x3 x4 x5 (0 : Int64) (1 : Int64) (0 : Int32) σ else f_X9_errs_54 σ else f_X9_errs_28 σ) = some qr := h
  skip
  refine lv_aload_n hx hb dX9_errs_0 rfl (lv_at hl 0 rfl) ?_
  refine lv_iload_n hx hb dX9_errs_1 rfl (lv_at hl 1 rfl) ?_
  refine rc_X9_95 X hW x1 ⟨⟨rfl, rfl⟩, Nat.le_of_ble_eq_true rfl, Nat.le_of_ble_eq_true rfl⟩ hl.1 (Nat.le_of_ble_eq_true rfl) dX9_errs_2 ⟨Nat.zero_le _, Nat.zero_le _⟩ (fun H locs hW => ?_)
  refine lv_if_ne (tgt := 14) hx hb dX9_errs_5 (by decide) (fun c5 => ?_) (fun c5 => ?_)
  · have h := (if_neg c5).symm.trans h
    refine lv_iload_n hx hb dX9_errs_14 rfl (lv_at hl 2 rfl) ?_
    refine lv_if_lt (tgt := 28) hx hb dX9_errs_15 (by decide) (fun c15 => ?_) (fun c15 => ?_)
    · have h := (if_pos c15).symm.trans h
      exact w_X9_errs_28 X σ _ _ _ h hW (lv_sub hl [0] rfl)
    · have h := (if_neg c15).symm.trans h
      refine lv_iload hx hb dX9_errs_18 (lv_at hl 4 rfl) ?_
      refine lv_if_lt (tgt := 28) hx hb dX9_errs_20 (by decide) (fun c20 => ?_) (fun c20 => ?_)
      · have h := (if_pos c20).symm.trans h
        exact w_X9_errs_28 X σ _ _ _ h hW (lv_sub hl [0] rfl)
      · have h := (if_neg c20).symm.trans h
        refine lv_iload_n hx hb dX9_errs_23 rfl (lv_at hl 3 rfl) ?_
        refine lv_iconst (v := 2) hx hb dX9_errs_24 rfl ?_
        refine lv_icmp_ge (tgt := 35) hx hb dX9_errs_25 (by decide) (fun c25 => ?_) (fun c25 => ?_)
        · have h := (if_pos c25).symm.trans h
          refine lv_iload_n hx hb dX9_errs_35 rfl (lv_at hl 2 rfl) ?_
          refine lv_bipush (v := 7) hx hb dX9_errs_36 rfl ?_
          refine lv_icmp_gt (tgt := 54) hx hb dX9_errs_38 (by decide) (fun c38 => ?_) (fun c38 => ?_)
          · have h := (if_pos c38).symm.trans h
            exact w_X9_errs_54 X σ _ _ _ h hW (lv_sub hl [0] rfl)
          · have h := (if_neg c38).symm.trans h
            refine lv_iload_n hx hb dX9_errs_41 rfl (lv_at hl 3 rfl) ?_
            refine lv_bipush (v := 20) hx hb dX9_errs_42 rfl ?_
            refine lv_icmp_gt (tgt := 54) hx hb dX9_errs_44 (by decide) (fun c44 => ?_) (fun c44 => ?_)
            · have h := (if_pos c44).symm.trans h
              exact w_X9_errs_54 X σ _ _ _ h hW (lv_sub hl [0] rfl)
            · have h := (if_neg c44).symm.trans h
              refine lv_iload hx hb dX9_errs_47 (lv_at hl 4 rfl) ?_
              refine lv_bipush (v := 99) hx hb dX9_errs_49 rfl ?_
              refine lv_icmp_le (tgt := 61) hx hb dX9_errs_51 (by decide) (fun c51 => ?_) (fun c51 => ?_)
              · have h := (if_pos c51).symm.trans h
                refine lv_iload hx hb dX9_errs_61 (lv_at hl 5 rfl) ?_
                refine lv_iconst (v := 0) hx hb dX9_errs_63 rfl ?_
                refine lv_iconst (v := 1) hx hb dX9_errs_64 rfl ?_
                refine rc_X9_41 X hW x5 (0 : Int32) (1 : Int32) ⟨⟨rfl, rfl⟩, Nat.le_of_ble_eq_true rfl, Nat.le_of_ble_eq_true rfl⟩ hl.1 (Nat.le_of_ble_eq_true rfl) dX9_errs_65 ⟨Nat.zero_le _, Nat.zero_le _⟩ (fun H locs hW => ?_)
                refine lv_if_ne (tgt := 78) hx hb dX9_errs_68 (by decide) (fun c68 => ?_) (fun c68 => ?_)
                · have h := (if_neg c68).symm.trans h
                  refine lv_lconst (v := 0) hx hb dX9_errs_78 rfl ?_
                  refine lv_lstore (lv' := [(6, .long (0 : Int64)), (0, .ref (lb_ad G 53)), (1, .int x1), (2, .int x2), (3, .int x3), (4, .int x4), (5, .int x5)]) hx hb dX9_errs_79 hl (by decide) rfl (fun ls hl => ?_)
                  refine lv_lconst (v := 1) hx hb dX9_errs_81 rfl ?_
                  refine lv_lstore (lv' := [(8, .long (1 : Int64)), (6, .long (0 : Int64)), (0, .ref (lb_ad G 53)), (1, .int x1), (2, .int x2), (3, .int x3), (4, .int x4), (5, .int x5)]) hx hb dX9_errs_82 hl (by decide) rfl (fun ls hl => ?_)
                  refine lv_iconst (v := 0) hx hb dX9_errs_84 rfl ?_
                  refine lv_istore (lv' := [(10, .int (0 : Int32)), (8, .long (1 : Int64)), (6, .long (0 : Int64)), (0, .ref (lb_ad G 53)), (1, .int x1), (2, .int x2), (3, .int x3), (4, .int x4), (5, .int x5)]) hx hb dX9_errs_85 hl (by decide) rfl (fun ls hl => ?_)
                  exact w_X9_errs_87 X lb_N x1 x2 x3 x4 x5 (0 : Int64) (1 : Int64) (0 : Int32) σ _ _ _ h hW (lv_sub hl [3, 4, 5, 6, 7, 8, 2, 1, 0] rfl)
                · have h := (if_pos c68).symm.trans h
                  refine lv_aload_n hx hb dX9_errs_71 rfl (lv_at hl 0 rfl) ?_
                  refine lv_bipush (v := -2) hx hb dX9_errs_72 rfl ?_
                  obtain ⟨q74, e74, h⟩ := lb_bind h
                  refine rc_X9_181 X hW e74 ⟨⟨rfl, rfl⟩, Nat.le_of_ble_eq_true rfl, Nat.le_of_ble_eq_true rfl⟩ hl.1 (Nat.le_of_ble_eq_true rfl) dX9_errs_74 ⟨Nat.zero_le _, Nat.zero_le _⟩ (fun H locs hW => ?_)
                  obtain rfl := Option.some.inj h
                  exact lb_lret X hW dX9_errs_77
              · have h := (if_neg c51).symm.trans h
                exact w_X9_errs_54 X σ _ _ _ h hW (lv_sub hl [0] rfl)
        · have h := (if_neg c25).symm.trans h
          exact w_X9_errs_28 X σ _ _ _ h hW (lv_sub hl [0] rfl)
  · have h := (if_pos c5).symm.trans h
    refine lv_aload_n hx hb dX9_errs_8 rfl (lv_at hl 0 rfl) ?_
    refine lv_iconst (v := -1) hx hb dX9_errs_9 rfl ?_
    obtain ⟨q10, e10, h⟩ := lb_bind h
    refine rc_X9_181 X hW e10 ⟨⟨rfl, rfl⟩, Nat.le_of_ble_eq_true rfl, Nat.le_of_ble_eq_true rfl⟩ hl.1 (Nat.le_of_ble_eq_true rfl) dX9_errs_10 ⟨Nat.zero_le _, Nat.zero_le _⟩ (fun H locs hW => ?_)
    obtain rfl := Option.some.inj h
    exact lb_lret X hW dX9_errs_13
abbrev rmX9_mean : Room := { frames := 2, cells := 0, slots := 0, locals := 53 }
def f_X9_mean (x1 : Int32) (σ : lb_Mem) : Option (Int64 × lb_Mem) := if (f_X9_isIn x1 (0 : Int32) (1 : Int32)) = 0 then (f_X9_noWide (-2 : Int32) σ).bind (fun q34 => some (q34.1, q34.2)) else (f_X9_allGrace σ 54).bind (fun q13 => (f_X9_partOf (q13.toInt64) ((σ 54 (1 : Int32).toNatClampNeg).toInt64) x1).bind (fun q25 => some (q25, σ)))
set_option maxRecDepth 20000 in
set_option maxHeartbeats 4000000 in
theorem m_X9_mean (l : Launch) (G : lb_G) (σ : lb_Mem) (x1 : Int32) (qr : (Int64 × lb_Mem)) (h : f_X9_mean x1 σ = some qr) : lb_M l yX9_mean cX9_mean 2 (some .long) rmX9_mean [.ref (lb_ad G 53), .int x1] G σ (lb_QL G qr.1 qr.2) := by
  refine lb_start RX9 (by decide +kernel) rfl (Nat.le_of_ble_eq_true rfl) (fun p e s m below meth c X hW ls hl => ?_)
  have hx := X.1
  have hb := X.2.1
  have hl : lv_has ls 2 [(0, .ref (lb_ad G 53)), (1, .int x1)] := hl
  have h : (if (f_X9_isIn x1 (0 : Int32) (1 : Int32)) = 0 then (f_X9_noWide (-2 : Int32) σ).bind (fun q34 => some (q34.1, q34.2)) else (f_X9_allGrace σ 54).bind (fun q13 => (f_X9_partOf (q13.toInt64) ((σ 54 (1 : Int32).toNatClampNeg).toInt64) x1).bind (fun q25 => some (q25, σ)))) = some qr := h
  skip
  refine lv_iload_n hx hb dX9_mean_0 rfl (lv_at hl 1 rfl) ?_
  refine lv_iconst (v := 0) hx hb dX9_mean_1 rfl ?_
  refine lv_iconst (v := 1) hx hb dX9_mean_2 rfl ?_
  refine rc_X9_41 X hW x1 (0 : Int32) (1 : Int32) ⟨⟨rfl, rfl⟩, Nat.le_of_ble_eq_true rfl, Nat.le_of_ble_eq_true rfl⟩ hl.1 (Nat.le_of_ble_eq_true rfl) dX9_mean_3 ⟨Nat.zero_le _, Nat.zero_le _⟩ (fun H locs hW => ?_)
  refine lv_if_eq (tgt := 31) hx hb dX9_mean_6 (by decide) (fun c6 => ?_) (fun c6 => ?_)
  · have h := (if_pos c6).symm.trans h
    refine lv_aload_n hx hb dX9_mean_31 rfl (lv_at hl 0 rfl) ?_
    refine lv_bipush (v := -2) hx hb dX9_mean_32 rfl ?_
    obtain ⟨q34, e34, h⟩ := lb_bind h
    refine rc_X9_181 X hW e34 ⟨⟨rfl, rfl⟩, Nat.le_of_ble_eq_true rfl, Nat.le_of_ble_eq_true rfl⟩ hl.1 (Nat.le_of_ble_eq_true rfl) dX9_mean_34 ⟨Nat.zero_le _, Nat.zero_le _⟩ (fun H locs hW => ?_)
    obtain rfl := Option.some.inj h
    exact lb_lret X hW dX9_mean_37
  · have h := (if_neg c6).symm.trans h
    refine lv_aload_n hx hb dX9_mean_9 rfl (lv_at hl 0 rfl) ?_
    refine rg_X9_9 X hW dX9_mean_10 ?_
    obtain ⟨q13, e13, h⟩ := lb_bind h
    refine rc_X9_129 X hW (show lb_ar 54 = 60 + 1 from rfl) e13 ⟨⟨rfl, rfl⟩, Nat.le_of_ble_eq_true rfl, Nat.le_of_ble_eq_true rfl⟩ hl.1 (Nat.le_of_ble_eq_true rfl) dX9_mean_13 ⟨Nat.zero_le _, Nat.zero_le _⟩ (fun H locs hW => ?_)
    refine lv_i2l (v := q13.toInt64) hx hb dX9_mean_16 rfl ?_
    refine lv_aload_n hx hb dX9_mean_17 rfl (lv_at hl 0 rfl) ?_
    refine rg_X9_9 X hW dX9_mean_18 ?_
    refine lv_iconst (v := 1) hx hb dX9_mean_21 rfl ?_
    refine lb_ild X hW (show lb_ar 54 = 60 + 1 from rfl) (lb_inC rfl) dX9_mean_22 ?_
    refine lv_i2l (v := (σ 54 (1 : Int32).toNatClampNeg).toInt64) hx hb dX9_mean_23 rfl ?_
    refine lv_iload_n hx hb dX9_mean_24 rfl (lv_at hl 1 rfl) ?_
    obtain ⟨q25, e25, h⟩ := lb_bind h
    refine rc_X9_188 X hW e25 ⟨⟨rfl, rfl⟩, Nat.le_of_ble_eq_true rfl, Nat.le_of_ble_eq_true rfl⟩ hl.1 (Nat.le_of_ble_eq_true rfl) dX9_mean_25 ⟨Nat.zero_le _, Nat.zero_le _⟩ (fun H locs hW => ?_)
    refine lv_goto (tgt := 37) hx hb dX9_mean_28 (by decide) ?_
    obtain rfl := Option.some.inj h
    exact lb_lret X hW dX9_mean_37
abbrev rmX9_whatIn : Room := { frames := 4, cells := 0, slots := 0, locals := 89 }
def f_X9_whatIn_136 (kc47 : Int32 → Int32 → Int32 → Int32 → Int32 → lb_Mem → Option (Int32 × lb_Mem)) (kc100 : Int32 → Int32 → Int32 → Int32 → Int32 → Int32 → Int32 → lb_Mem → Option (Int32 × lb_Mem)) (x1 : Int32) (x2 : Int32) (x3 : Int32) (x4 : Int32) (x5 : Int32) (x7 : Int32) (σ : lb_Mem) (y0 : Int32) (y1 : Int32) : Option (Int32 × lb_Mem) := lb_let ((y0 &&& y1)) (fun v137 : Int32 => (f_X9_year 55 σ).bind (fun s143 => kc100 x1 x2 x3 x4 x5 v137 (x7 + 1) s143))
set_option maxRecDepth 20000 in
set_option maxHeartbeats 4000000 in
theorem w_X9_whatIn_136 {p : Program} {l : Launch} {e : Env} {s : State} {m : MethodId} {args : Array Value} {below : List Frame} {meth : Method} {c : Code} {G : lb_G} {qr : (Int32 × lb_Mem)} (X : lb_C G p s m args meth c cX9_whatIn 8 RX9 (some .int)) {kc47 : Int32 → Int32 → Int32 → Int32 → Int32 → lb_Mem → Option (Int32 × lb_Mem)} {kc100 : Int32 → Int32 → Int32 → Int32 → Int32 → Int32 → Int32 → lb_Mem → Option (Int32 × lb_Mem)} (hc47 : ∀ (x1 : Int32) (x2 : Int32) (x3 : Int32) (x4 : Int32) (x5 : Int32) (σ : lb_Mem) (H : Heap) (locs : List Loc) (ls : Array Slot), kc47 x1 x2 x3 x4 x5 σ = some qr → lb_W G s σ H locs → lv_has ls 8 [(0, .ref (lb_ad G 53)), (1, .int x1), (2, .int x2), (3, .int x3), (4, .int x4), (5, .int x5)] → W p l e rmX9_whatIn s m args below meth c H locs 0 0 (MQ below (lb_QI G qr.1 qr.2) args s 0 0 (lb_A G)) (F0 m 47 ls [])) (hc100 : ∀ (x1 : Int32) (x2 : Int32) (x3 : Int32) (x4 : Int32) (x5 : Int32) (x6 : Int32) (x7 : Int32) (σ : lb_Mem) (H : Heap) (locs : List Loc) (ls : Array Slot), kc100 x1 x2 x3 x4 x5 x6 x7 σ = some qr → lb_W G s σ H locs → lv_has ls 8 [(0, .ref (lb_ad G 53)), (1, .int x1), (2, .int x2), (3, .int x3), (4, .int x4), (5, .int x5), (6, .int x6), (7, .int x7)] → W p l e rmX9_whatIn s m args below meth c H locs 0 0 (MQ below (lb_QI G qr.1 qr.2) args s 0 0 (lb_A G)) (F0 m 100 ls [])) : ∀ (x1 : Int32) (x2 : Int32) (x3 : Int32) (x4 : Int32) (x5 : Int32) (x7 : Int32) (σ : lb_Mem) (y0 : Int32) (y1 : Int32) (H : Heap) (locs : List Loc) (ls : Array Slot), f_X9_whatIn_136 kc47 kc100 x1 x2 x3 x4 x5 x7 σ y0 y1 = some qr → lb_W G s σ H locs → lv_has ls 8 [(0, .ref (lb_ad G 53)), (1, .int x1), (2, .int x2), (3, .int x3), (4, .int x4), (5, .int x5), (7, .int x7)] → W p l e rmX9_whatIn s m args below meth c H locs 0 0 (MQ below (lb_QI G qr.1 qr.2) args s 0 0 (lb_A G)) (F0 m 136 ls [.int y1, .int y0]) := by
  have hx := X.1
  have hb := X.2.1
  intro x1 x2 x3 x4 x5 x7 σ y0 y1 H locs ls h hW hl
  have h : (lb_let ((y0 &&& y1)) (fun v137 : Int32 => (f_X9_year 55 σ).bind (fun s143 => kc100 x1 x2 x3 x4 x5 v137 (x7 + 1) s143))) = some qr := h
  refine lv_iand hx hb dX9_whatIn_136 ?_
  refine lv_topi (fun v137 e137 => ?_)
  have h := lb_letI e137 h
  refine lv_istore (lv' := [(6, .int v137), (0, .ref (lb_ad G 53)), (1, .int x1), (2, .int x2), (3, .int x3), (4, .int x4), (5, .int x5), (7, .int x7)]) hx hb dX9_whatIn_137 hl (by decide) rfl (fun ls hl => ?_)
  refine lv_aload_n hx hb dX9_whatIn_139 rfl (lv_at hl 1 rfl) ?_
  refine rg_X9_13 X hW dX9_whatIn_140 ?_
  obtain ⟨s143, e143, h⟩ := lb_bind h
  refine rc_X9_69 X hW (show lb_ar 55 = 60 + 1 from rfl) e143 ⟨⟨rfl, rfl⟩, Nat.le_of_ble_eq_true rfl, Nat.le_of_ble_eq_true rfl⟩ hl.1 (Nat.le_of_ble_eq_true rfl) dX9_whatIn_143 ⟨Nat.zero_le _, Nat.zero_le _⟩ (fun H locs hW => ?_)
  refine lv_iinc (v := (x7 + 1)) (lv' := [(7, .int (x7 + 1)), (6, .int v137), (0, .ref (lb_ad G 53)), (1, .int x1), (2, .int x2), (3, .int x3), (4, .int x4), (5, .int x5)]) hx hb dX9_whatIn_146 hl (k := 7) rfl rfl (by decide) rfl (fun ls hl => ?_)
  refine lv_goto (tgt := 100) hx hb dX9_whatIn_149 (by decide) ?_
  exact hc100 x1 x2 x3 x4 x5 v137 (x7 + 1) s143 _ _ _ h hW (lv_sub hl [2, 3, 4, 5, 6, 7, 1, 0] rfl)
def f_X9_whatIn_100 (kc47 : Int32 → Int32 → Int32 → Int32 → Int32 → lb_Mem → Option (Int32 × lb_Mem)) : Nat → Int32 → Int32 → Int32 → Int32 → Int32 → Int32 → Int32 → lb_Mem → Option (Int32 × lb_Mem)
  | 0, _, _, _, _, _, _, _, _ => none
  | n + 1, x1, x2, x3, x4, x5, x6, x7, σ => if (σ 53 9) ≤ x7 then if x6 = 0 then lb_let ((x4 ||| (0 : Int32))) (fun v168 : Int32 => kc47 x1 x2 x3 v168 (x5 + 1) σ) else lb_let ((x4 ||| ((1 : Int32) <<< (x5 &&& 31)))) (fun v168 : Int32 => kc47 x1 x2 x3 v168 (x5 + 1) σ) else lb_chk (lb_ix (f_X9_ofP x3 (1 : Int32)) 61) (lb_chk (lb_ix x7 16) (if (σ 55 (f_X9_ofP x3 (1 : Int32)).toNatClampNeg) = (σ 59 x7.toNatClampNeg) then f_X9_whatIn_136 kc47 (fun (x1 : Int32) (x2 : Int32) (x3 : Int32) (x4 : Int32) (x5 : Int32) (x6 : Int32) (x7 : Int32) (σ : lb_Mem) => f_X9_whatIn_100 kc47 n x1 x2 x3 x4 x5 x6 x7 σ) x1 x2 x3 x4 x5 x7 σ x6 (1 : Int32) else f_X9_whatIn_136 kc47 (fun (x1 : Int32) (x2 : Int32) (x3 : Int32) (x4 : Int32) (x5 : Int32) (x6 : Int32) (x7 : Int32) (σ : lb_Mem) => f_X9_whatIn_100 kc47 n x1 x2 x3 x4 x5 x6 x7 σ) x1 x2 x3 x4 x5 x7 σ x6 (0 : Int32)))
set_option maxRecDepth 20000 in
set_option maxHeartbeats 4000000 in
theorem w_X9_whatIn_100 {p : Program} {l : Launch} {e : Env} {s : State} {m : MethodId} {args : Array Value} {below : List Frame} {meth : Method} {c : Code} {G : lb_G} {qr : (Int32 × lb_Mem)} (X : lb_C G p s m args meth c cX9_whatIn 8 RX9 (some .int)) {kc47 : Int32 → Int32 → Int32 → Int32 → Int32 → lb_Mem → Option (Int32 × lb_Mem)} (hc47 : ∀ (x1 : Int32) (x2 : Int32) (x3 : Int32) (x4 : Int32) (x5 : Int32) (σ : lb_Mem) (H : Heap) (locs : List Loc) (ls : Array Slot), kc47 x1 x2 x3 x4 x5 σ = some qr → lb_W G s σ H locs → lv_has ls 8 [(0, .ref (lb_ad G 53)), (1, .int x1), (2, .int x2), (3, .int x3), (4, .int x4), (5, .int x5)] → W p l e rmX9_whatIn s m args below meth c H locs 0 0 (MQ below (lb_QI G qr.1 qr.2) args s 0 0 (lb_A G)) (F0 m 47 ls [])) : ∀ (n : Nat) (x1 : Int32) (x2 : Int32) (x3 : Int32) (x4 : Int32) (x5 : Int32) (x6 : Int32) (x7 : Int32) (σ : lb_Mem) (H : Heap) (locs : List Loc) (ls : Array Slot), f_X9_whatIn_100 kc47 n x1 x2 x3 x4 x5 x6 x7 σ = some qr → lb_W G s σ H locs → lv_has ls 8 [(0, .ref (lb_ad G 53)), (1, .int x1), (2, .int x2), (3, .int x3), (4, .int x4), (5, .int x5), (6, .int x6), (7, .int x7)] → W p l e rmX9_whatIn s m args below meth c H locs 0 0 (MQ below (lb_QI G qr.1 qr.2) args s 0 0 (lb_A G)) (F0 m 100 ls []) := by
  have hx := X.1
  have hb := X.2.1
  intro n
  induction n with
  | zero => intro x1 x2 x3 x4 x5 x6 x7 σ H locs ls h hW hl; exact absurd h (fun z => by cases z)
  | succ n ih =>
    intro x1 x2 x3 x4 x5 x6 x7 σ H locs ls h hW hl
    have h : (if (σ 53 9) ≤ x7 then if x6 = 0 then lb_let ((x4 ||| (0 : Int32))) (fun v168 : Int32 => kc47 x1 x2 x3 v168 (x5 + 1) σ) else lb_let ((x4 ||| ((1 : Int32) <<< (x5 &&& 31)))) (fun v168 : Int32 => kc47 x1 x2 x3 v168 (x5 + 1) σ) else lb_chk (lb_ix (f_X9_ofP x3 (1 : Int32)) 61) (lb_chk (lb_ix x7 16) (if (σ 55 (f_X9_ofP x3 (1 : Int32)).toNatClampNeg) = (σ 59 x7.toNatClampNeg) then f_X9_whatIn_136 kc47 (fun (x1 : Int32) (x2 : Int32) (x3 : Int32) (x4 : Int32) (x5 : Int32) (x6 : Int32) (x7 : Int32) (σ : lb_Mem) => f_X9_whatIn_100 kc47 n x1 x2 x3 x4 x5 x6 x7 σ) x1 x2 x3 x4 x5 x7 σ x6 (1 : Int32) else f_X9_whatIn_136 kc47 (fun (x1 : Int32) (x2 : Int32) (x3 : Int32) (x4 : Int32) (x5 : Int32) (x6 : Int32) (x7 : Int32) (σ : lb_Mem) => f_X9_whatIn_100 kc47 n x1 x2 x3 x4 x5 x6 x7 σ) x1 x2 x3 x4 x5 x7 σ x6 (0 : Int32)))) = some qr := h
    refine lv_iload hx hb dX9_whatIn_100 (lv_at hl 7 rfl) ?_
    refine lv_aload_n hx hb dX9_whatIn_102 rfl (lv_at hl 0 rfl) ?_
    refine rg_X9_192 X hW dX9_whatIn_103 ?_
    refine lv_icmp_ge (tgt := 152) hx hb dX9_whatIn_106 (by decide) (fun c106 => ?_) (fun c106 => ?_)
    · have h := (if_pos c106).symm.trans h
      refine lv_iload hx hb dX9_whatIn_152 (lv_at hl 4 rfl) ?_
      refine lv_iload hx hb dX9_whatIn_154 (lv_at hl 6 rfl) ?_
      refine lv_if_eq (tgt := 166) hx hb dX9_whatIn_156 (by decide) (fun c156 => ?_) (fun c156 => ?_)
      · have h := (if_pos c156).symm.trans h
        refine lv_iconst (v := 0) hx hb dX9_whatIn_166 rfl ?_
        refine lv_ior hx hb dX9_whatIn_167 ?_
        refine lv_topi (fun v168 e168 => ?_)
        have h := lb_letI e168 h
        refine lv_istore (lv' := [(4, .int v168), (0, .ref (lb_ad G 53)), (1, .int x1), (2, .int x2), (3, .int x3), (5, .int x5), (6, .int x6), (7, .int x7)]) hx hb dX9_whatIn_168 hl (by decide) rfl (fun ls hl => ?_)
        refine lv_iinc (v := (x5 + 1)) (lv' := [(5, .int (x5 + 1)), (4, .int v168), (0, .ref (lb_ad G 53)), (1, .int x1), (2, .int x2), (3, .int x3), (6, .int x6), (7, .int x7)]) hx hb dX9_whatIn_170 hl (k := 5) rfl rfl (by decide) rfl (fun ls hl => ?_)
        refine lv_goto (tgt := 47) hx hb dX9_whatIn_173 (by decide) ?_
        exact hc47 x1 x2 x3 v168 (x5 + 1) σ _ _ _ h hW (lv_sub hl [2, 3, 4, 5, 1, 0] rfl)
      · have h := (if_neg c156).symm.trans h
        refine lv_iconst (v := 1) hx hb dX9_whatIn_159 rfl ?_
        refine lv_iload hx hb dX9_whatIn_160 (lv_at hl 5 rfl) ?_
        refine lv_ishl hx hb dX9_whatIn_162 ?_
        refine lv_goto (tgt := 167) hx hb dX9_whatIn_163 (by decide) ?_
        refine lv_ior hx hb dX9_whatIn_167 ?_
        refine lv_topi (fun v168 e168 => ?_)
        have h := lb_letI e168 h
        refine lv_istore (lv' := [(4, .int v168), (0, .ref (lb_ad G 53)), (1, .int x1), (2, .int x2), (3, .int x3), (5, .int x5), (6, .int x6), (7, .int x7)]) hx hb dX9_whatIn_168 hl (by decide) rfl (fun ls hl => ?_)
        refine lv_iinc (v := (x5 + 1)) (lv' := [(5, .int (x5 + 1)), (4, .int v168), (0, .ref (lb_ad G 53)), (1, .int x1), (2, .int x2), (3, .int x3), (6, .int x6), (7, .int x7)]) hx hb dX9_whatIn_170 hl (k := 5) rfl rfl (by decide) rfl (fun ls hl => ?_)
        refine lv_goto (tgt := 47) hx hb dX9_whatIn_173 (by decide) ?_
        exact hc47 x1 x2 x3 v168 (x5 + 1) σ _ _ _ h hW (lv_sub hl [2, 3, 4, 5, 1, 0] rfl)
    · have h := (if_neg c106).symm.trans h
      refine lv_iload hx hb dX9_whatIn_109 (lv_at hl 6 rfl) ?_
      refine lv_aload_n hx hb dX9_whatIn_111 rfl (lv_at hl 0 rfl) ?_
      refine rg_X9_13 X hW dX9_whatIn_112 ?_
      refine lv_iload_n hx hb dX9_whatIn_115 rfl (lv_at hl 3 rfl) ?_
      refine lv_iconst (v := 1) hx hb dX9_whatIn_116 rfl ?_
      refine rc_X9_52 X hW x3 (1 : Int32) ⟨⟨rfl, rfl⟩, Nat.le_of_ble_eq_true rfl, Nat.le_of_ble_eq_true rfl⟩ hl.1 (Nat.le_of_ble_eq_true rfl) dX9_whatIn_117 ⟨Nat.zero_le _, Nat.zero_le _⟩ (fun H locs hW => ?_)
      obtain ⟨i120, h⟩ := lb_chk_in h
      refine lb_ild X hW (show lb_ar 55 = 60 + 1 from rfl) i120 dX9_whatIn_120 ?_
      refine lv_aload_n hx hb dX9_whatIn_121 rfl (lv_at hl 0 rfl) ?_
      refine rg_X9_25 X hW dX9_whatIn_122 ?_
      refine lv_iload hx hb dX9_whatIn_125 (lv_at hl 7 rfl) ?_
      obtain ⟨i127, h⟩ := lb_chk_in h
      refine lb_ild X hW (show lb_ar 59 = 15 + 1 from rfl) i127 dX9_whatIn_127 ?_
      refine lv_icmp_ne (tgt := 135) hx hb dX9_whatIn_128 (by decide) (fun c128 => ?_) (fun c128 => ?_)
      · have h := (if_neg c128).symm.trans h
        refine lv_iconst (v := 0) hx hb dX9_whatIn_135 rfl ?_
        exact w_X9_whatIn_136 X hc47 ih x1 x2 x3 x4 x5 x7 σ x6 (0 : Int32) _ _ _ h hW (lv_sub hl [0, 1, 2, 3, 4, 5, 7] rfl)
      · have h := (if_pos c128).symm.trans h
        refine lv_iconst (v := 1) hx hb dX9_whatIn_131 rfl ?_
        refine lv_goto (tgt := 136) hx hb dX9_whatIn_132 (by decide) ?_
        exact w_X9_whatIn_136 X hc47 ih x1 x2 x3 x4 x5 x7 σ x6 (1 : Int32) _ _ _ h hW (lv_sub hl [0, 1, 2, 3, 4, 5, 7] rfl)
def f_X9_whatIn_91 (kc47 : Int32 → Int32 → Int32 → Int32 → Int32 → lb_Mem → Option (Int32 × lb_Mem)) (x1 : Int32) (x2 : Int32) (x3 : Int32) (x4 : Int32) (x5 : Int32) (x6 : Int32) (σ : lb_Mem) (y1 : Int32) (y2 : Int32) : Option (Int32 × lb_Mem) := lb_chk (lb_ix (f_X9_ofT y1 y2) 61) (lb_let (lb_sto σ 55 (f_X9_ofT y1 y2).toNatClampNeg x5) (fun s96 : lb_Mem => f_X9_whatIn_100 kc47 lb_N x1 x2 x3 x4 x5 x6 (0 : Int32) s96))
set_option maxRecDepth 20000 in
set_option maxHeartbeats 4000000 in
theorem w_X9_whatIn_91 {p : Program} {l : Launch} {e : Env} {s : State} {m : MethodId} {args : Array Value} {below : List Frame} {meth : Method} {c : Code} {G : lb_G} {qr : (Int32 × lb_Mem)} (X : lb_C G p s m args meth c cX9_whatIn 8 RX9 (some .int)) {kc47 : Int32 → Int32 → Int32 → Int32 → Int32 → lb_Mem → Option (Int32 × lb_Mem)} (hc47 : ∀ (x1 : Int32) (x2 : Int32) (x3 : Int32) (x4 : Int32) (x5 : Int32) (σ : lb_Mem) (H : Heap) (locs : List Loc) (ls : Array Slot), kc47 x1 x2 x3 x4 x5 σ = some qr → lb_W G s σ H locs → lv_has ls 8 [(0, .ref (lb_ad G 53)), (1, .int x1), (2, .int x2), (3, .int x3), (4, .int x4), (5, .int x5)] → W p l e rmX9_whatIn s m args below meth c H locs 0 0 (MQ below (lb_QI G qr.1 qr.2) args s 0 0 (lb_A G)) (F0 m 47 ls [])) : ∀ (x1 : Int32) (x2 : Int32) (x3 : Int32) (x4 : Int32) (x5 : Int32) (x6 : Int32) (σ : lb_Mem) (y1 : Int32) (y2 : Int32) (H : Heap) (locs : List Loc) (ls : Array Slot), f_X9_whatIn_91 kc47 x1 x2 x3 x4 x5 x6 σ y1 y2 = some qr → lb_W G s σ H locs → lv_has ls 8 [(0, .ref (lb_ad G 53)), (1, .int x1), (2, .int x2), (3, .int x3), (4, .int x4), (5, .int x5), (6, .int x6)] → W p l e rmX9_whatIn s m args below meth c H locs 0 0 (MQ below (lb_QI G qr.1 qr.2) args s 0 0 (lb_A G)) (F0 m 91 ls [.int y2, .int y1, .ref (lb_ad G 55)]) := by
  have hx := X.1
  have hb := X.2.1
  intro x1 x2 x3 x4 x5 x6 σ y1 y2 H locs ls h hW hl
  have h : (lb_chk (lb_ix (f_X9_ofT y1 y2) 61) (lb_let (lb_sto σ 55 (f_X9_ofT y1 y2).toNatClampNeg x5) (fun s96 : lb_Mem => f_X9_whatIn_100 kc47 lb_N x1 x2 x3 x4 x5 x6 (0 : Int32) s96))) = some qr := h
  refine rc_X9_45 X hW y1 y2 ⟨⟨rfl, rfl⟩, Nat.le_of_ble_eq_true rfl, Nat.le_of_ble_eq_true rfl⟩ hl.1 (Nat.le_of_ble_eq_true rfl) dX9_whatIn_91 ⟨Nat.zero_le _, Nat.zero_le _⟩ (fun H locs hW => ?_)
  refine lv_iload hx hb dX9_whatIn_94 (lv_at hl 5 rfl) ?_
  obtain ⟨i96, h⟩ := lb_chk_in h
  refine lb_ist X hW (show lb_ar 55 = 60 + 1 from rfl) i96 dX9_whatIn_96 (fun H locs hW => ?_)
  obtain ⟨s96, e96⟩ : ∃ z, z = lb_sto σ 55 (f_X9_ofT y1 y2).toNatClampNeg x5 := ⟨_, rfl⟩
  rw [← e96] at hW
  have h := lb_letI e96 h
  refine lv_iconst (v := 0) hx hb dX9_whatIn_97 rfl ?_
  refine lv_istore (lv' := [(7, .int (0 : Int32)), (0, .ref (lb_ad G 53)), (1, .int x1), (2, .int x2), (3, .int x3), (4, .int x4), (5, .int x5), (6, .int x6)]) hx hb dX9_whatIn_98 hl (by decide) rfl (fun ls hl => ?_)
  exact w_X9_whatIn_100 X hc47 lb_N x1 x2 x3 x4 x5 x6 (0 : Int32) s96 _ _ _ h hW (lv_sub hl [1, 2, 3, 4, 5, 6, 7, 0] rfl)
def f_X9_whatIn_60 (kc47 : Int32 → Int32 → Int32 → Int32 → Int32 → lb_Mem → Option (Int32 × lb_Mem)) (x1 : Int32) (x2 : Int32) (x3 : Int32) (x4 : Int32) (x5 : Int32) (σ : lb_Mem) (y0 : Int32) (y1 : Int32) : Option (Int32 × lb_Mem) := if y1 ≤ y0 then some (x4, σ) else (f_X9_copies 54 55 σ).bind (fun s74 => if x2 = 0 then f_X9_whatIn_91 kc47 x1 x2 x3 x4 x5 (1 : Int32) s74 x1 (2 : Int32) else f_X9_whatIn_91 kc47 x1 x2 x3 x4 x5 (1 : Int32) s74 x1 (0 : Int32))
set_option maxRecDepth 20000 in
set_option maxHeartbeats 4000000 in
theorem w_X9_whatIn_60 {p : Program} {l : Launch} {e : Env} {s : State} {m : MethodId} {args : Array Value} {below : List Frame} {meth : Method} {c : Code} {G : lb_G} {qr : (Int32 × lb_Mem)} (X : lb_C G p s m args meth c cX9_whatIn 8 RX9 (some .int)) {kc47 : Int32 → Int32 → Int32 → Int32 → Int32 → lb_Mem → Option (Int32 × lb_Mem)} (hc47 : ∀ (x1 : Int32) (x2 : Int32) (x3 : Int32) (x4 : Int32) (x5 : Int32) (σ : lb_Mem) (H : Heap) (locs : List Loc) (ls : Array Slot), kc47 x1 x2 x3 x4 x5 σ = some qr → lb_W G s σ H locs → lv_has ls 8 [(0, .ref (lb_ad G 53)), (1, .int x1), (2, .int x2), (3, .int x3), (4, .int x4), (5, .int x5)] → W p l e rmX9_whatIn s m args below meth c H locs 0 0 (MQ below (lb_QI G qr.1 qr.2) args s 0 0 (lb_A G)) (F0 m 47 ls [])) : ∀ (x1 : Int32) (x2 : Int32) (x3 : Int32) (x4 : Int32) (x5 : Int32) (σ : lb_Mem) (y0 : Int32) (y1 : Int32) (H : Heap) (locs : List Loc) (ls : Array Slot), f_X9_whatIn_60 kc47 x1 x2 x3 x4 x5 σ y0 y1 = some qr → lb_W G s σ H locs → lv_has ls 8 [(0, .ref (lb_ad G 53)), (1, .int x1), (2, .int x2), (3, .int x3), (4, .int x4), (5, .int x5)] → W p l e rmX9_whatIn s m args below meth c H locs 0 0 (MQ below (lb_QI G qr.1 qr.2) args s 0 0 (lb_A G)) (F0 m 60 ls [.int y1, .int y0]) := by
  have hx := X.1
  have hb := X.2.1
  intro x1 x2 x3 x4 x5 σ y0 y1 H locs ls h hW hl
  have h : (if y1 ≤ y0 then some (x4, σ) else (f_X9_copies 54 55 σ).bind (fun s74 => if x2 = 0 then f_X9_whatIn_91 kc47 x1 x2 x3 x4 x5 (1 : Int32) s74 x1 (2 : Int32) else f_X9_whatIn_91 kc47 x1 x2 x3 x4 x5 (1 : Int32) s74 x1 (0 : Int32))) = some qr := h
  refine lv_icmp_ge (tgt := 176) hx hb dX9_whatIn_60 (by decide) (fun c60 => ?_) (fun c60 => ?_)
  · have h := (if_pos c60).symm.trans h
    refine lv_iload hx hb dX9_whatIn_176 (lv_at hl 4 rfl) ?_
    obtain rfl := Option.some.inj h
    exact lb_iret X hW dX9_whatIn_178
  · have h := (if_neg c60).symm.trans h
    refine lv_iconst (v := 1) hx hb dX9_whatIn_63 rfl ?_
    refine lv_istore (lv' := [(6, .int (1 : Int32)), (0, .ref (lb_ad G 53)), (1, .int x1), (2, .int x2), (3, .int x3), (4, .int x4), (5, .int x5)]) hx hb dX9_whatIn_64 hl (by decide) rfl (fun ls hl => ?_)
    refine lv_aload_n hx hb dX9_whatIn_66 rfl (lv_at hl 1 rfl) ?_
    refine rg_X9_9 X hW dX9_whatIn_67 ?_
    refine lv_aload_n hx hb dX9_whatIn_70 rfl (lv_at hl 1 rfl) ?_
    refine rg_X9_13 X hW dX9_whatIn_71 ?_
    obtain ⟨s74, e74, h⟩ := lb_bind h
    refine rc_X9_112 X hW (show lb_ar 54 = 60 + 1 from rfl) (show lb_ar 55 = 60 + 1 from rfl) e74 ⟨⟨rfl, rfl⟩, Nat.le_of_ble_eq_true rfl, Nat.le_of_ble_eq_true rfl⟩ hl.1 (Nat.le_of_ble_eq_true rfl) dX9_whatIn_74 ⟨Nat.zero_le _, Nat.zero_le _⟩ (fun H locs hW => ?_)
    refine lv_aload_n hx hb dX9_whatIn_77 rfl (lv_at hl 1 rfl) ?_
    refine rg_X9_13 X hW dX9_whatIn_78 ?_
    refine lv_iload_n hx hb dX9_whatIn_81 rfl (lv_at hl 2 rfl) ?_
    refine lv_iload_n hx hb dX9_whatIn_82 rfl (lv_at hl 3 rfl) ?_
    refine lv_if_ne (tgt := 90) hx hb dX9_whatIn_83 (by decide) (fun c83 => ?_) (fun c83 => ?_)
    · have h := (if_neg c83).symm.trans h
      refine lv_iconst (v := 0) hx hb dX9_whatIn_90 rfl ?_
      exact w_X9_whatIn_91 X hc47 x1 x2 x3 x4 x5 (1 : Int32) s74 x1 (0 : Int32) _ _ _ h hW (lv_sub hl [1, 2, 3, 4, 5, 6, 0] rfl)
    · have h := (if_pos c83).symm.trans h
      refine lv_iconst (v := 2) hx hb dX9_whatIn_86 rfl ?_
      refine lv_goto (tgt := 91) hx hb dX9_whatIn_87 (by decide) ?_
      exact w_X9_whatIn_91 X hc47 x1 x2 x3 x4 x5 (1 : Int32) s74 x1 (2 : Int32) _ _ _ h hW (lv_sub hl [1, 2, 3, 4, 5, 6, 0] rfl)
def f_X9_whatIn_47 : Nat → Int32 → Int32 → Int32 → Int32 → Int32 → lb_Mem → Option (Int32 × lb_Mem)
  | 0, _, _, _, _, _, _ => none
  | n + 1, x1, x2, x3, x4, x5, σ => if x2 = 0 then f_X9_whatIn_60 (fun (x1 : Int32) (x2 : Int32) (x3 : Int32) (x4 : Int32) (x5 : Int32) (σ : lb_Mem) => f_X9_whatIn_47 n x1 x2 x3 x4 x5 σ) x1 x2 x3 x4 x5 σ x5 (6 : Int32) else f_X9_whatIn_60 (fun (x1 : Int32) (x2 : Int32) (x3 : Int32) (x4 : Int32) (x5 : Int32) (σ : lb_Mem) => f_X9_whatIn_47 n x1 x2 x3 x4 x5 σ) x1 x2 x3 x4 x5 σ x5 (6 : Int32)
set_option maxRecDepth 20000 in
set_option maxHeartbeats 4000000 in
theorem w_X9_whatIn_47 {p : Program} {l : Launch} {e : Env} {s : State} {m : MethodId} {args : Array Value} {below : List Frame} {meth : Method} {c : Code} {G : lb_G} {qr : (Int32 × lb_Mem)} (X : lb_C G p s m args meth c cX9_whatIn 8 RX9 (some .int)) : ∀ (n : Nat) (x1 : Int32) (x2 : Int32) (x3 : Int32) (x4 : Int32) (x5 : Int32) (σ : lb_Mem) (H : Heap) (locs : List Loc) (ls : Array Slot), f_X9_whatIn_47 n x1 x2 x3 x4 x5 σ = some qr → lb_W G s σ H locs → lv_has ls 8 [(0, .ref (lb_ad G 53)), (1, .int x1), (2, .int x2), (3, .int x3), (4, .int x4), (5, .int x5)] → W p l e rmX9_whatIn s m args below meth c H locs 0 0 (MQ below (lb_QI G qr.1 qr.2) args s 0 0 (lb_A G)) (F0 m 47 ls []) := by
  have hx := X.1
  have hb := X.2.1
  intro n
  induction n with
  | zero => intro x1 x2 x3 x4 x5 σ H locs ls h hW hl; exact absurd h (fun z => by cases z)
  | succ n ih =>
    intro x1 x2 x3 x4 x5 σ H locs ls h hW hl
    have h : (if x2 = 0 then f_X9_whatIn_60 (fun (x1 : Int32) (x2 : Int32) (x3 : Int32) (x4 : Int32) (x5 : Int32) (σ : lb_Mem) => f_X9_whatIn_47 n x1 x2 x3 x4 x5 σ) x1 x2 x3 x4 x5 σ x5 (6 : Int32) else f_X9_whatIn_60 (fun (x1 : Int32) (x2 : Int32) (x3 : Int32) (x4 : Int32) (x5 : Int32) (σ : lb_Mem) => f_X9_whatIn_47 n x1 x2 x3 x4 x5 σ) x1 x2 x3 x4 x5 σ x5 (6 : Int32)) = some qr := h
    refine lv_iload hx hb dX9_whatIn_47 (lv_at hl 5 rfl) ?_
    refine lv_iload_n hx hb dX9_whatIn_49 rfl (lv_at hl 2 rfl) ?_
    refine lv_if_ne (tgt := 58) hx hb dX9_whatIn_50 (by decide) (fun c50 => ?_) (fun c50 => ?_)
    · have h := (if_neg c50).symm.trans h
      refine lv_bipush (v := 6) hx hb dX9_whatIn_58 rfl ?_
      exact w_X9_whatIn_60 X ih x1 x2 x3 x4 x5 σ x5 (6 : Int32) _ _ _ h hW (lv_sub hl [0, 1, 2, 3, 4, 5] rfl)
    · have h := (if_pos c50).symm.trans h
      refine lv_bipush (v := 6) hx hb dX9_whatIn_53 rfl ?_
      refine lv_goto (tgt := 60) hx hb dX9_whatIn_55 (by decide) ?_
      exact w_X9_whatIn_60 X ih x1 x2 x3 x4 x5 σ x5 (6 : Int32) _ _ _ h hW (lv_sub hl [0, 1, 2, 3, 4, 5] rfl)
def f_X9_whatIn (x1 : Int32) (x2 : Int32) (σ : lb_Mem) : Option (Int32 × lb_Mem) := if (f_X9_isPot σ x1) = 0 then (f_X9_no (-1 : Int32) σ).bind (fun q10 => some (q10.1, q10.2)) else if (f_X9_isIn x2 (0 : Int32) (1 : Int32)) = 0 then (f_X9_no (-2 : Int32) σ).bind (fun q26 => some (q26.1, q26.2)) else lb_chk (lb_ix (f_X9_ofT x1 (5 : Int32)) 61) (lb_let ((σ 54 (f_X9_ofT x1 (5 : Int32)).toNatClampNeg)) (fun v40 : Int32 => f_X9_whatIn_47 lb_N x1 x2 v40 (0 : Int32) (0 : Int32) σ))
set_option maxRecDepth 20000 in
set_option maxHeartbeats 4000000 in
theorem m_X9_whatIn (l : Launch) (G : lb_G) (σ : lb_Mem) (x1 : Int32) (x2 : Int32) (qr : (Int32 × lb_Mem)) (h : f_X9_whatIn x1 x2 σ = some qr) : lb_M l yX9_whatIn cX9_whatIn 8 (some .int) rmX9_whatIn [.ref (lb_ad G 53), .int x1, .int x2] G σ (lb_QI G qr.1 qr.2) := by
  refine lb_start RX9 (by decide +kernel) rfl (Nat.le_of_ble_eq_true rfl) (fun p e s m below meth c X hW ls hl => ?_)
  have hx := X.1
  have hb := X.2.1
  have hl : lv_has ls 8 [(0, .ref (lb_ad G 53)), (1, .int x1), (2, .int x2)] := hl
  have h : (if (f_X9_isPot σ x1) = 0 then (f_X9_no (-1 : Int32) σ).bind (fun q10 => some (q10.1, q10.2)) else if (f_X9_isIn x2 (0 : Int32) (1 : Int32)) = 0 then (f_X9_no (-2 : Int32) σ).bind (fun q26 => some (q26.1, q26.2)) else lb_chk (lb_ix (f_X9_ofT x1 (5 : Int32)) 61) (lb_let ((σ 54 (f_X9_ofT x1 (5 : Int32)).toNatClampNeg)) (fun v40 : Int32 => f_X9_whatIn_47 lb_N x1 x2 v40 (0 : Int32) (0 : Int32) σ))) = some qr := h
  skip
  refine lv_aload_n hx hb dX9_whatIn_0 rfl (lv_at hl 0 rfl) ?_
  refine lv_iload_n hx hb dX9_whatIn_1 rfl (lv_at hl 1 rfl) ?_
  refine rc_X9_102 X hW x1 ⟨⟨rfl, rfl⟩, Nat.le_of_ble_eq_true rfl, Nat.le_of_ble_eq_true rfl⟩ hl.1 (Nat.le_of_ble_eq_true rfl) dX9_whatIn_2 ⟨Nat.zero_le _, Nat.zero_le _⟩ (fun H locs hW => ?_)
  refine lv_if_ne (tgt := 14) hx hb dX9_whatIn_5 (by decide) (fun c5 => ?_) (fun c5 => ?_)
  · have h := (if_neg c5).symm.trans h
    refine lv_iload_n hx hb dX9_whatIn_14 rfl (lv_at hl 2 rfl) ?_
    refine lv_iconst (v := 0) hx hb dX9_whatIn_15 rfl ?_
    refine lv_iconst (v := 1) hx hb dX9_whatIn_16 rfl ?_
    refine rc_X9_41 X hW x2 (0 : Int32) (1 : Int32) ⟨⟨rfl, rfl⟩, Nat.le_of_ble_eq_true rfl, Nat.le_of_ble_eq_true rfl⟩ hl.1 (Nat.le_of_ble_eq_true rfl) dX9_whatIn_17 ⟨Nat.zero_le _, Nat.zero_le _⟩ (fun H locs hW => ?_)
    refine lv_if_ne (tgt := 30) hx hb dX9_whatIn_20 (by decide) (fun c20 => ?_) (fun c20 => ?_)
    · have h := (if_neg c20).symm.trans h
      refine lv_aload_n hx hb dX9_whatIn_30 rfl (lv_at hl 0 rfl) ?_
      refine rg_X9_9 X hW dX9_whatIn_31 ?_
      refine lv_iload_n hx hb dX9_whatIn_34 rfl (lv_at hl 1 rfl) ?_
      refine lv_iconst (v := 5) hx hb dX9_whatIn_35 rfl ?_
      refine rc_X9_45 X hW x1 (5 : Int32) ⟨⟨rfl, rfl⟩, Nat.le_of_ble_eq_true rfl, Nat.le_of_ble_eq_true rfl⟩ hl.1 (Nat.le_of_ble_eq_true rfl) dX9_whatIn_36 ⟨Nat.zero_le _, Nat.zero_le _⟩ (fun H locs hW => ?_)
      obtain ⟨i39, h⟩ := lb_chk_in h
      refine lb_ild X hW (show lb_ar 54 = 60 + 1 from rfl) i39 dX9_whatIn_39 ?_
      refine lv_topi (fun v40 e40 => ?_)
      have h := lb_letI e40 h
      refine lv_istore_n (lv' := [(3, .int v40), (0, .ref (lb_ad G 53)), (1, .int x1), (2, .int x2)]) hx hb dX9_whatIn_40 rfl hl (by decide) rfl (fun ls hl => ?_)
      refine lv_iconst (v := 0) hx hb dX9_whatIn_41 rfl ?_
      refine lv_istore (lv' := [(4, .int (0 : Int32)), (3, .int v40), (0, .ref (lb_ad G 53)), (1, .int x1), (2, .int x2)]) hx hb dX9_whatIn_42 hl (by decide) rfl (fun ls hl => ?_)
      refine lv_iconst (v := 0) hx hb dX9_whatIn_44 rfl ?_
      refine lv_istore (lv' := [(5, .int (0 : Int32)), (4, .int (0 : Int32)), (3, .int v40), (0, .ref (lb_ad G 53)), (1, .int x1), (2, .int x2)]) hx hb dX9_whatIn_45 hl (by decide) rfl (fun ls hl => ?_)
      exact w_X9_whatIn_47 X lb_N x1 x2 v40 (0 : Int32) (0 : Int32) σ _ _ _ h hW (lv_sub hl [3, 4, 5, 2, 1, 0] rfl)
    · have h := (if_pos c20).symm.trans h
      refine lv_aload_n hx hb dX9_whatIn_23 rfl (lv_at hl 0 rfl) ?_
      refine lv_bipush (v := -2) hx hb dX9_whatIn_24 rfl ?_
      obtain ⟨q26, e26, h⟩ := lb_bind h
      refine rc_X9_35 X hW e26 ⟨⟨rfl, rfl⟩, Nat.le_of_ble_eq_true rfl, Nat.le_of_ble_eq_true rfl⟩ hl.1 (Nat.le_of_ble_eq_true rfl) dX9_whatIn_26 ⟨Nat.zero_le _, Nat.zero_le _⟩ (fun H locs hW => ?_)
      obtain rfl := Option.some.inj h
      exact lb_iret X hW dX9_whatIn_29
  · have h := (if_pos c5).symm.trans h
    refine lv_aload_n hx hb dX9_whatIn_8 rfl (lv_at hl 0 rfl) ?_
    refine lv_iconst (v := -1) hx hb dX9_whatIn_9 rfl ?_
    obtain ⟨q10, e10, h⟩ := lb_bind h
    refine rc_X9_35 X hW e10 ⟨⟨rfl, rfl⟩, Nat.le_of_ble_eq_true rfl, Nat.le_of_ble_eq_true rfl⟩ hl.1 (Nat.le_of_ble_eq_true rfl) dX9_whatIn_10 ⟨Nat.zero_le _, Nat.zero_le _⟩ (fun H locs hW => ?_)
    obtain rfl := Option.some.inj h
    exact lb_iret X hW dX9_whatIn_13
abbrev rmX9_row : Room := { frames := 1, cells := 0, slots := 0, locals := 22 }
def f_X9_row_24 (x1 : Int32) (x2 : Int32) (σ : lb_Mem) : Option (Int32 × lb_Mem) := if x2 = 0 then lb_chk (lb_ix (σ 53 9) 16) (lb_let (lb_sto σ 59 (σ 53 9).toNatClampNeg x1) (fun s43 : lb_Mem => lb_let (lb_sto s43 53 9 ((s43 53 9) + (1 : Int32))) (fun s51 : lb_Mem => some ((s51 53 9), s51)))) else (f_X9_no x2 σ).bind (fun q30 => some (q30.1, q30.2))
set_option maxRecDepth 20000 in
set_option maxHeartbeats 4000000 in
theorem w_X9_row_24 {p : Program} {l : Launch} {e : Env} {s : State} {m : MethodId} {args : Array Value} {below : List Frame} {meth : Method} {c : Code} {G : lb_G} {qr : (Int32 × lb_Mem)} (X : lb_C G p s m args meth c cX9_row 3 RX9 (some .int)) : ∀ (x1 : Int32) (x2 : Int32) (σ : lb_Mem) (H : Heap) (locs : List Loc) (ls : Array Slot), f_X9_row_24 x1 x2 σ = some qr → lb_W G s σ H locs → lv_has ls 3 [(0, .ref (lb_ad G 53)), (1, .int x1), (2, .int x2)] → W p l e rmX9_row s m args below meth c H locs 0 0 (MQ below (lb_QI G qr.1 qr.2) args s 0 0 (lb_A G)) (F0 m 24 ls []) := by
  have hx := X.1
  have hb := X.2.1
  intro x1 x2 σ H locs ls h hW hl
  have h : (if x2 = 0 then lb_chk (lb_ix (σ 53 9) 16) (lb_let (lb_sto σ 59 (σ 53 9).toNatClampNeg x1) (fun s43 : lb_Mem => lb_let (lb_sto s43 53 9 ((s43 53 9) + (1 : Int32))) (fun s51 : lb_Mem => some ((s51 53 9), s51)))) else (f_X9_no x2 σ).bind (fun q30 => some (q30.1, q30.2))) = some qr := h
  refine lv_iload_n hx hb dX9_row_24 rfl (lv_at hl 2 rfl) ?_
  refine lv_if_eq (tgt := 34) hx hb dX9_row_25 (by decide) (fun c25 => ?_) (fun c25 => ?_)
  · have h := (if_pos c25).symm.trans h
    refine lv_aload_n hx hb dX9_row_34 rfl (lv_at hl 0 rfl) ?_
    refine rg_X9_25 X hW dX9_row_35 ?_
    refine lv_aload_n hx hb dX9_row_38 rfl (lv_at hl 0 rfl) ?_
    refine rg_X9_192 X hW dX9_row_39 ?_
    refine lv_iload_n hx hb dX9_row_42 rfl (lv_at hl 1 rfl) ?_
    obtain ⟨i43, h⟩ := lb_chk_in h
    refine lb_ist X hW (show lb_ar 59 = 15 + 1 from rfl) i43 dX9_row_43 (fun H locs hW => ?_)
    obtain ⟨s43, e43⟩ : ∃ z, z = lb_sto σ 59 (σ 53 9).toNatClampNeg x1 := ⟨_, rfl⟩
    rw [← e43] at hW
    have h := lb_letI e43 h
    refine lv_aload_n hx hb dX9_row_44 rfl (lv_at hl 0 rfl) ?_
    refine lv_dup hx hb dX9_row_45 rfl ?_
    refine rg_X9_192 X hW dX9_row_46 ?_
    refine lv_iconst (v := 1) hx hb dX9_row_49 rfl ?_
    refine lv_iadd hx hb dX9_row_50 ?_
    refine rp_X9_192 X hW dX9_row_51 (fun H locs hW => ?_)
    obtain ⟨s51, e51⟩ : ∃ z, z = lb_sto s43 53 9 ((s43 53 9) + (1 : Int32)) := ⟨_, rfl⟩
    rw [← e51] at hW
    have h := lb_letI e51 h
    refine lv_aload_n hx hb dX9_row_54 rfl (lv_at hl 0 rfl) ?_
    refine rg_X9_192 X hW dX9_row_55 ?_
    obtain rfl := Option.some.inj h
    exact lb_iret X hW dX9_row_58
  · have h := (if_neg c25).symm.trans h
    refine lv_aload_n hx hb dX9_row_28 rfl (lv_at hl 0 rfl) ?_
    refine lv_iload_n hx hb dX9_row_29 rfl (lv_at hl 2 rfl) ?_
    obtain ⟨q30, e30, h⟩ := lb_bind h
    refine rc_X9_35 X hW e30 ⟨⟨rfl, rfl⟩, Nat.le_of_ble_eq_true rfl, Nat.le_of_ble_eq_true rfl⟩ hl.1 (Nat.le_of_ble_eq_true rfl) dX9_row_30 ⟨Nat.zero_le _, Nat.zero_le _⟩ (fun H locs hW => ?_)
    obtain rfl := Option.some.inj h
    exact lb_iret X hW dX9_row_33
def f_X9_row (x1 : Int32) (σ : lb_Mem) : Option (Int32 × lb_Mem) := lb_let ((f_X9_wrongBy x1 (0 : Int32) (99 : Int32))) (fun v7 : Int32 => if v7 = 0 then if (σ 53 9) = (16 : Int32) then f_X9_row_24 x1 (-6 : Int32) σ else f_X9_row_24 x1 v7 σ else f_X9_row_24 x1 v7 σ)
set_option maxRecDepth 20000 in
set_option maxHeartbeats 4000000 in
theorem m_X9_row (l : Launch) (G : lb_G) (σ : lb_Mem) (x1 : Int32) (qr : (Int32 × lb_Mem)) (h : f_X9_row x1 σ = some qr) : lb_M l yX9_row cX9_row 3 (some .int) rmX9_row [.ref (lb_ad G 53), .int x1] G σ (lb_QI G qr.1 qr.2) := by
  refine lb_start RX9 (by decide +kernel) rfl (Nat.le_of_ble_eq_true rfl) (fun p e s m below meth c X hW ls hl => ?_)
  have hx := X.1
  have hb := X.2.1
  have hl : lv_has ls 3 [(0, .ref (lb_ad G 53)), (1, .int x1)] := hl
  have h : (lb_let ((f_X9_wrongBy x1 (0 : Int32) (99 : Int32))) (fun v7 : Int32 => if v7 = 0 then if (σ 53 9) = (16 : Int32) then f_X9_row_24 x1 (-6 : Int32) σ else f_X9_row_24 x1 v7 σ else f_X9_row_24 x1 v7 σ)) = some qr := h
  skip
  refine lv_iload_n hx hb dX9_row_0 rfl (lv_at hl 1 rfl) ?_
  refine lv_iconst (v := 0) hx hb dX9_row_1 rfl ?_
  refine lv_bipush (v := 99) hx hb dX9_row_2 rfl ?_
  refine rc_X9_125 X hW x1 (0 : Int32) (99 : Int32) ⟨⟨rfl, rfl⟩, Nat.le_of_ble_eq_true rfl, Nat.le_of_ble_eq_true rfl⟩ hl.1 (Nat.le_of_ble_eq_true rfl) dX9_row_4 ⟨Nat.zero_le _, Nat.zero_le _⟩ (fun H locs hW => ?_)
  refine lv_topi (fun v7 e7 => ?_)
  have h := lb_letI e7 h
  refine lv_istore_n (lv' := [(2, .int v7), (0, .ref (lb_ad G 53)), (1, .int x1)]) hx hb dX9_row_7 rfl hl (by decide) rfl (fun ls hl => ?_)
  refine lv_iload_n hx hb dX9_row_8 rfl (lv_at hl 0 rfl) ?_
  refine lv_if_ne (tgt := 24) hx hb dX9_row_9 (by decide) (fun c9 => ?_) (fun c9 => ?_)
  · have h := (if_neg c9).symm.trans h
    exact w_X9_row_24 X x1 v7 σ _ _ _ h hW (lv_sub hl [1, 2, 0] rfl)
  · have h := (if_pos c9).symm.trans h
    refine lv_aload_n hx hb dX9_row_12 rfl (lv_at hl 1 rfl) ?_
    refine rg_X9_192 X hW dX9_row_13 ?_
    refine lv_bipush (v := 16) hx hb dX9_row_16 rfl ?_
    refine lv_icmp_ne (tgt := 24) hx hb dX9_row_18 (by decide) (fun c18 => ?_) (fun c18 => ?_)
    · have h := (if_neg c18).symm.trans h
      exact w_X9_row_24 X x1 v7 σ _ _ _ h hW (lv_sub hl [1, 2, 0] rfl)
    · have h := (if_pos c18).symm.trans h
      refine lv_bipush (v := -6) hx hb dX9_row_21 rfl ?_
      refine lv_istore_n (lv' := [(2, .int (-6 : Int32)), (0, .ref (lb_ad G 53)), (1, .int x1)]) hx hb dX9_row_23 rfl hl (by decide) rfl (fun ls hl => ?_)
      exact w_X9_row_24 X x1 (-6 : Int32) σ _ _ _ h hW (lv_sub hl [1, 2, 0] rfl)
abbrev rmX9_judge : Room := { frames := 2, cells := 0, slots := 0, locals := 43 }
def f_X9_judge_12 : Nat → Int32 → Int32 → lb_Mem → Option (Int32 × lb_Mem)
  | 0, _, _, _ => none
  | n + 1, x1, x2, σ => if x1 ≤ x2 then some ((-9 : Int32), σ) else if (f_X9_isPot σ x2) = 0 then some (x2, σ) else lb_chk (lb_ix (f_X9_ofT x2 (3 : Int32)) 61) (lb_chk (lb_ix x2 16) (if (σ 54 (f_X9_ofT x2 (3 : Int32)).toNatClampNeg) = (σ 59 x2.toNatClampNeg) then f_X9_judge_12 n x1 (x2 + 1) σ else some (x2, σ)))
set_option maxRecDepth 20000 in
set_option maxHeartbeats 4000000 in
theorem w_X9_judge_12 {p : Program} {l : Launch} {e : Env} {s : State} {m : MethodId} {args : Array Value} {below : List Frame} {meth : Method} {c : Code} {G : lb_G} {qr : (Int32 × lb_Mem)} (X : lb_C G p s m args meth c cX9_judge 3 RX9 (some .int)) : ∀ (n : Nat) (x1 : Int32) (x2 : Int32) (σ : lb_Mem) (H : Heap) (locs : List Loc) (ls : Array Slot), f_X9_judge_12 n x1 x2 σ = some qr → lb_W G s σ H locs → lv_has ls 3 [(0, .ref (lb_ad G 53)), (1, .int x1), (2, .int x2)] → W p l e rmX9_judge s m args below meth c H locs 0 0 (MQ below (lb_QI G qr.1 qr.2) args s 0 0 (lb_A G)) (F0 m 12 ls []) := by
  have hx := X.1
  have hb := X.2.1
  intro n
  induction n with
  | zero => intro x1 x2 σ H locs ls h hW hl; exact absurd h (fun z => by cases z)
  | succ n ih =>
    intro x1 x2 σ H locs ls h hW hl
    have h : (if x1 ≤ x2 then some ((-9 : Int32), σ) else if (f_X9_isPot σ x2) = 0 then some (x2, σ) else lb_chk (lb_ix (f_X9_ofT x2 (3 : Int32)) 61) (lb_chk (lb_ix x2 16) (if (σ 54 (f_X9_ofT x2 (3 : Int32)).toNatClampNeg) = (σ 59 x2.toNatClampNeg) then f_X9_judge_12 n x1 (x2 + 1) σ else some (x2, σ)))) = some qr := h
    refine lv_iload_n hx hb dX9_judge_12 rfl (lv_at hl 2 rfl) ?_
    refine lv_iload_n hx hb dX9_judge_13 rfl (lv_at hl 1 rfl) ?_
    refine lv_icmp_ge (tgt := 52) hx hb dX9_judge_14 (by decide) (fun c14 => ?_) (fun c14 => ?_)
    · have h := (if_pos c14).symm.trans h
      refine lv_bipush (v := -9) hx hb dX9_judge_52 rfl ?_
      obtain rfl := Option.some.inj h
      exact lb_iret X hW dX9_judge_54
    · have h := (if_neg c14).symm.trans h
      refine lv_aload_n hx hb dX9_judge_17 rfl (lv_at hl 0 rfl) ?_
      refine lv_iload_n hx hb dX9_judge_18 rfl (lv_at hl 2 rfl) ?_
      refine rc_X9_102 X hW x2 ⟨⟨rfl, rfl⟩, Nat.le_of_ble_eq_true rfl, Nat.le_of_ble_eq_true rfl⟩ hl.1 (Nat.le_of_ble_eq_true rfl) dX9_judge_19 ⟨Nat.zero_le _, Nat.zero_le _⟩ (fun H locs hW => ?_)
      refine lv_if_eq (tgt := 44) hx hb dX9_judge_22 (by decide) (fun c22 => ?_) (fun c22 => ?_)
      · have h := (if_pos c22).symm.trans h
        refine lv_iload_n hx hb dX9_judge_44 rfl (lv_at hl 2 rfl) ?_
        obtain rfl := Option.some.inj h
        exact lb_iret X hW dX9_judge_45
      · have h := (if_neg c22).symm.trans h
        refine lv_aload_n hx hb dX9_judge_25 rfl (lv_at hl 0 rfl) ?_
        refine rg_X9_9 X hW dX9_judge_26 ?_
        refine lv_iload_n hx hb dX9_judge_29 rfl (lv_at hl 2 rfl) ?_
        refine lv_iconst (v := 3) hx hb dX9_judge_30 rfl ?_
        refine rc_X9_45 X hW x2 (3 : Int32) ⟨⟨rfl, rfl⟩, Nat.le_of_ble_eq_true rfl, Nat.le_of_ble_eq_true rfl⟩ hl.1 (Nat.le_of_ble_eq_true rfl) dX9_judge_31 ⟨Nat.zero_le _, Nat.zero_le _⟩ (fun H locs hW => ?_)
        obtain ⟨i34, h⟩ := lb_chk_in h
        refine lb_ild X hW (show lb_ar 54 = 60 + 1 from rfl) i34 dX9_judge_34 ?_
        refine lv_aload_n hx hb dX9_judge_35 rfl (lv_at hl 0 rfl) ?_
        refine rg_X9_25 X hW dX9_judge_36 ?_
        refine lv_iload_n hx hb dX9_judge_39 rfl (lv_at hl 2 rfl) ?_
        obtain ⟨i40, h⟩ := lb_chk_in h
        refine lb_ild X hW (show lb_ar 59 = 15 + 1 from rfl) i40 dX9_judge_40 ?_
        refine lv_icmp_eq (tgt := 46) hx hb dX9_judge_41 (by decide) (fun c41 => ?_) (fun c41 => ?_)
        · have h := (if_pos c41).symm.trans h
          refine lv_iinc (v := (x2 + 1)) (lv' := [(2, .int (x2 + 1)), (0, .ref (lb_ad G 53)), (1, .int x1)]) hx hb dX9_judge_46 hl (k := 2) rfl rfl (by decide) rfl (fun ls hl => ?_)
          refine lv_goto (tgt := 12) hx hb dX9_judge_49 (by decide) ?_
          exact ih x1 (x2 + 1) σ _ _ _ h hW (lv_sub hl [1, 2, 0] rfl)
        · have h := (if_neg c41).symm.trans h
          refine lv_iload_n hx hb dX9_judge_44 rfl (lv_at hl 2 rfl) ?_
          obtain rfl := Option.some.inj h
          exact lb_iret X hW dX9_judge_45
def f_X9_judge (σ : lb_Mem) : Option (Int32 × lb_Mem) := lb_let ((σ 53 9)) (fun v4 : Int32 => lb_let (lb_sto σ 53 9 (0 : Int32)) (fun s7 : lb_Mem => f_X9_judge_12 lb_N v4 (0 : Int32) s7))
set_option maxRecDepth 20000 in
set_option maxHeartbeats 4000000 in
theorem m_X9_judge (l : Launch) (G : lb_G) (σ : lb_Mem) (qr : (Int32 × lb_Mem)) (h : f_X9_judge σ = some qr) : lb_M l yX9_judge cX9_judge 3 (some .int) rmX9_judge [.ref (lb_ad G 53)] G σ (lb_QI G qr.1 qr.2) := by
  refine lb_start RX9 (by decide +kernel) rfl (Nat.le_of_ble_eq_true rfl) (fun p e s m below meth c X hW ls hl => ?_)
  have hx := X.1
  have hb := X.2.1
  have hl : lv_has ls 3 [(0, .ref (lb_ad G 53))] := hl
  have h : (lb_let ((σ 53 9)) (fun v4 : Int32 => lb_let (lb_sto σ 53 9 (0 : Int32)) (fun s7 : lb_Mem => f_X9_judge_12 lb_N v4 (0 : Int32) s7))) = some qr := h
  skip
  refine lv_aload_n hx hb dX9_judge_0 rfl (lv_at hl 0 rfl) ?_
  refine rg_X9_192 X hW dX9_judge_1 ?_
  refine lv_topi (fun v4 e4 => ?_)
  have h := lb_letI e4 h
  refine lv_istore_n (lv' := [(1, .int v4), (0, .ref (lb_ad G 53))]) hx hb dX9_judge_4 rfl hl (by decide) rfl (fun ls hl => ?_)
  refine lv_aload_n hx hb dX9_judge_5 rfl (lv_at hl 1 rfl) ?_
  refine lv_iconst (v := 0) hx hb dX9_judge_6 rfl ?_
  refine rp_X9_192 X hW dX9_judge_7 (fun H locs hW => ?_)
  obtain ⟨s7, e7⟩ : ∃ z, z = lb_sto σ 53 9 (0 : Int32) := ⟨_, rfl⟩
  rw [← e7] at hW
  have h := lb_letI e7 h
  refine lv_iconst (v := 0) hx hb dX9_judge_10 rfl ?_
  refine lv_istore_n (lv' := [(2, .int (0 : Int32)), (1, .int v4), (0, .ref (lb_ad G 53))]) hx hb dX9_judge_11 rfl hl (by decide) rfl (fun ls hl => ?_)
  exact w_X9_judge_12 X lb_N v4 (0 : Int32) s7 _ _ _ h hW (lv_sub hl [2, 1, 0] rfl)
abbrev rmX9_clear : Room := { frames := 0, cells := 0, slots := 0, locals := 0 }
def f_X9_clear (σ : lb_Mem) : Option (Int32 × lb_Mem) := lb_let ((σ 53 9)) (fun v4 : Int32 => lb_let (lb_sto σ 53 9 (0 : Int32)) (fun s7 : lb_Mem => some (v4, s7)))
set_option maxRecDepth 20000 in
set_option maxHeartbeats 4000000 in
theorem m_X9_clear (l : Launch) (G : lb_G) (σ : lb_Mem) (qr : (Int32 × lb_Mem)) (h : f_X9_clear σ = some qr) : lb_M l yX9_clear cX9_clear 2 (some .int) rmX9_clear [.ref (lb_ad G 53)] G σ (lb_QI G qr.1 qr.2) := by
  refine lb_start RX9 (by decide +kernel) rfl (Nat.le_of_ble_eq_true rfl) (fun p e s m below meth c X hW ls hl => ?_)
  have hx := X.1
  have hb := X.2.1
  have hl : lv_has ls 2 [(0, .ref (lb_ad G 53))] := hl
  have h : (lb_let ((σ 53 9)) (fun v4 : Int32 => lb_let (lb_sto σ 53 9 (0 : Int32)) (fun s7 : lb_Mem => some (v4, s7)))) = some qr := h
  skip
  refine lv_aload_n hx hb dX9_clear_0 rfl (lv_at hl 0 rfl) ?_
  refine rg_X9_192 X hW dX9_clear_1 ?_
  refine lv_topi (fun v4 e4 => ?_)
  have h := lb_letI e4 h
  refine lv_istore_n (lv' := [(1, .int v4), (0, .ref (lb_ad G 53))]) hx hb dX9_clear_4 rfl hl (by decide) rfl (fun ls hl => ?_)
  refine lv_aload_n hx hb dX9_clear_5 rfl (lv_at hl 1 rfl) ?_
  refine lv_iconst (v := 0) hx hb dX9_clear_6 rfl ?_
  refine rp_X9_192 X hW dX9_clear_7 (fun H locs hW => ?_)
  obtain ⟨s7, e7⟩ : ∃ z, z = lb_sto σ 53 9 (0 : Int32) := ⟨_, rfl⟩
  rw [← e7] at hW
  have h := lb_letI e7 h
  refine lv_iload_n hx hb dX9_clear_10 rfl (lv_at hl 0 rfl) ?_
  obtain rfl := Option.some.inj h
  exact lb_iret X hW dX9_clear_11
abbrev rmX9_drawn : Room := { frames := 0, cells := 0, slots := 0, locals := 0 }
def f_X9_drawn (x1 : Int32) (σ : lb_Mem) : Option (Int32 × lb_Mem) := lb_let (lb_sto σ 53 12 (((σ 53 12) * (1664525 : Int32)) + (1013904223 : Int32))) (fun s11 : lb_Mem => lb_chk (x1 != 0) (some (((((s11 53 12) &&& (2147483647 : Int32)) / (256 : Int32)) - (((s11 53 12) &&& (2147483647 : Int32)) / (256 : Int32)) / x1 * x1), s11)))
set_option maxRecDepth 20000 in
set_option maxHeartbeats 4000000 in
theorem m_X9_drawn (l : Launch) (G : lb_G) (σ : lb_Mem) (x1 : Int32) (qr : (Int32 × lb_Mem)) (h : f_X9_drawn x1 σ = some qr) : lb_M l yX9_drawn cX9_drawn 2 (some .int) rmX9_drawn [.ref (lb_ad G 53), .int x1] G σ (lb_QI G qr.1 qr.2) := by
  refine lb_start RX9 (by decide +kernel) rfl (Nat.le_of_ble_eq_true rfl) (fun p e s m below meth c X hW ls hl => ?_)
  have hx := X.1
  have hb := X.2.1
  have hl : lv_has ls 2 [(0, .ref (lb_ad G 53)), (1, .int x1)] := hl
  have h : (lb_let (lb_sto σ 53 12 (((σ 53 12) * (1664525 : Int32)) + (1013904223 : Int32))) (fun s11 : lb_Mem => lb_chk (x1 != 0) (some (((((s11 53 12) &&& (2147483647 : Int32)) / (256 : Int32)) - (((s11 53 12) &&& (2147483647 : Int32)) / (256 : Int32)) / x1 * x1), s11)))) = some qr := h
  skip
  refine lv_aload_n hx hb dX9_drawn_0 rfl (lv_at hl 0 rfl) ?_
  refine lv_aload_n hx hb dX9_drawn_1 rfl (lv_at hl 0 rfl) ?_
  refine rg_X9_195 X hW dX9_drawn_2 ?_
  refine lv_ldc (v := 1664525) hx hb X.2.2.2.1 (X.2.2.2.2.1 _ qw_1113) dX9_drawn_5 ?_
  refine lv_imul hx hb dX9_drawn_7 ?_
  refine lv_ldc (v := 1013904223) hx hb X.2.2.2.1 (X.2.2.2.2.1 _ qw_1114) dX9_drawn_8 ?_
  refine lv_iadd hx hb dX9_drawn_10 ?_
  refine rp_X9_195 X hW dX9_drawn_11 (fun H locs hW => ?_)
  obtain ⟨s11, e11⟩ : ∃ z, z = lb_sto σ 53 12 (((σ 53 12) * (1664525 : Int32)) + (1013904223 : Int32)) := ⟨_, rfl⟩
  rw [← e11] at hW
  have h := lb_letI e11 h
  refine lv_aload_n hx hb dX9_drawn_14 rfl (lv_at hl 0 rfl) ?_
  refine rg_X9_195 X hW dX9_drawn_15 ?_
  refine lv_ldc (v := 2147483647) hx hb X.2.2.2.1 (X.2.2.2.2.1 _ qw_1115) dX9_drawn_18 ?_
  refine lv_iand hx hb dX9_drawn_20 ?_
  refine lv_sipush (v := 256) hx hb dX9_drawn_21 rfl ?_
  refine lv_idiv hx hb dX9_drawn_24 (by decide) ?_
  refine lv_iload_n hx hb dX9_drawn_25 rfl (lv_at hl 1 rfl) ?_
  obtain ⟨z26, h⟩ := lb_chk_nz h
  refine lv_irem hx hb dX9_drawn_26 z26 ?_
  obtain rfl := Option.some.inj h
  exact lb_iret X hW dX9_drawn_27
