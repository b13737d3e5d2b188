theorem rc_X9_84 {p : Program} {l : Launch} {e : Env} {R : Room} {s : State} {m : MethodId} {args : Array Value} {below : List Frame} {meth : Method} {c : Code} {H : Heap} {locs : List Loc} {cells slots : Nat} {Q : State → Prop} {cc : ByteArray} {pc nL : Nat} {ls : Array Slot} {rest : List Value} {G : lb_G} {σ : lb_Mem} {ret : Option FieldType} (X : lb_C G p s m args meth c cc nL RX9 ret) (hW : lb_W G s σ H locs) (x0 : Int32) (hR : lb_room rmX9_kindBy R 1) (hls : ls.size = nL) (hrest : (rest.map fun v => v.category).sum ≤ 8) (d : decode cc pc = .ok (.invokestatic 84, 3)) (hcap : cells ≤ R.cells ∧ slots ≤ R.slots) (kk : ∀ (H1 : Heap) (locs1 : List Loc), lb_W G s σ H1 locs1 → W p l e R s m args below meth c H1 locs1 cells slots Q (F0 m (pc + 3) ls (.int (f_X9_kindBy x0) :: rest))) : W p l e R s m args below meth c H locs cells slots Q (F0 m pc ls (.int x0 :: rest)) :=
  lb_goI hW (lb_runS (As := [.int x0]) X hW (m_X9_kindBy l G σ x0 _ rfl) (n := 1) ⟨qw_837, qw_52, qw_839, by decide +kernel⟩ hR qw_838 rfl hls hrest d hcap) kk
abbrev rmX9_readsKind : Room := { frames := 1, cells := 0, slots := 0, locals := 20 }
def f_X9_readsKind_32 (σ : lb_Mem) (y1 : Int32) (y2 : Int32) : Option (Int32 × lb_Mem) := lb_let (lb_sto σ 53 10 (y1 + y2)) (fun s33 : lb_Mem => if (s33 61 (0 : Int32).toNatClampNeg) < 0 then some ((0 : Int32), s33) else some ((1 : Int32), s33))
set_option maxRecDepth 20000 in
set_option maxHeartbeats 4000000 in
theorem w_X9_readsKind_32 {p : Program} {l : Launch} {e : Env} {s : State} {m : MethodId} {args : Array Value} {below : List Frame} {meth : Method} {c : Code} {G : lb_G} {qr : (Int32 × lb_Mem)} (X : lb_C G p s m args meth c cX9_readsKind 1 RX9 (some .boolean)) : ∀ (σ : lb_Mem) (y1 : Int32) (y2 : Int32) (H : Heap) (locs : List Loc) (ls : Array Slot), f_X9_readsKind_32 σ y1 y2 = some qr → lb_W G s σ H locs → lv_has ls 1 [(0, .ref (lb_ad G 53))] → W p l e rmX9_readsKind s m args below meth c H locs 0 0 (MQ below (lb_QI G qr.1 qr.2) args s 0 0 (lb_A G)) (F0 m 32 ls [.int y2, .int y1, .ref (lb_ad G 53)]) := by
  have hx := X.1
  have hb := X.2.1
  intro σ y1 y2 H locs ls h hW hl
  have h : (lb_let (lb_sto σ 53 10 (y1 + y2)) (fun s33 : lb_Mem => if (s33 61 (0 : Int32).toNatClampNeg) < 0 then some ((0 : Int32), s33) else some ((1 : Int32), s33))) = some qr := h
  refine lv_iadd hx hb dX9_readsKind_32 ?_
  refine rp_X9_77 X hW dX9_readsKind_33 (fun H locs hW => ?_)
  obtain ⟨s33, e33⟩ : ∃ z, z = lb_sto σ 53 10 (y1 + y2) := ⟨_, rfl⟩
  rw [← e33] at hW
  have h := lb_letI e33 h
  refine lv_aload_n hx hb dX9_readsKind_36 rfl (lv_at hl 0 rfl) ?_
  refine rg_X9_31 X hW dX9_readsKind_37 ?_
  refine lv_iconst (v := 0) hx hb dX9_readsKind_40 rfl ?_
  refine lb_ild X hW (show lb_ar 61 = 5 + 1 from rfl) (lb_inC rfl) dX9_readsKind_41 ?_
  refine lv_if_lt (tgt := 49) hx hb dX9_readsKind_42 (by decide) (fun c42 => ?_) (fun c42 => ?_)
  · have h := (if_pos c42).symm.trans h
    refine lv_iconst (v := 0) hx hb dX9_readsKind_49 rfl ?_
    obtain rfl := Option.some.inj h
    exact lb_zret X hW (Or.inl rfl) dX9_readsKind_50
  · have h := (if_neg c42).symm.trans h
    refine lv_iconst (v := 1) hx hb dX9_readsKind_45 rfl ?_
    refine lv_goto (tgt := 50) hx hb dX9_readsKind_46 (by decide) ?_
    obtain rfl := Option.some.inj h
    exact lb_zret X hW (Or.inr rfl) dX9_readsKind_50
def f_X9_readsKind (σ : lb_Mem) : Option (Int32 × lb_Mem) := (f_X9_here σ).bind (fun q6 => lb_let (lb_sto σ 61 (0 : Int32).toNatClampNeg (f_X9_kindBy q6)) (fun s12 : lb_Mem => if 0 ≤ (s12 61 (0 : Int32).toNatClampNeg) then f_X9_readsKind_32 s12 (s12 53 10) (1 : Int32) else f_X9_readsKind_32 s12 (s12 53 10) (0 : Int32)))
set_option maxRecDepth 20000 in
set_option maxHeartbeats 4000000 in
theorem m_X9_readsKind (l : Launch) (G : lb_G) (σ : lb_Mem) (qr : (Int32 × lb_Mem)) (h : f_X9_readsKind σ = some qr) : lb_M l yX9_readsKind cX9_readsKind 1 (some .boolean) rmX9_readsKind [.ref (lb_ad G 53)] G σ (lb_QI G qr.1 qr.2) := by
  refine lb_start RX9 (by decide +kernel) rfl (Nat.le_of_ble_eq_true rfl) (fun p e s m below meth c X hW ls hl => ?_)
  have hx := X.1
  have hb := X.2.1
  have hl : lv_has ls 1 [(0, .ref (lb_ad G 53))] := hl
  have h : ((f_X9_here σ).bind (fun q6 => lb_let (lb_sto σ 61 (0 : Int32).toNatClampNeg (f_X9_kindBy q6)) (fun s12 : lb_Mem => if 0 ≤ (s12 61 (0 : Int32).toNatClampNeg) then f_X9_readsKind_32 s12 (s12 53 10) (1 : Int32) else f_X9_readsKind_32 s12 (s12 53 10) (0 : Int32)))) = some qr := h
  skip
  refine lv_aload_n hx hb dX9_readsKind_0 rfl (lv_at hl 0 rfl) ?_
  refine rg_X9_31 X hW dX9_readsKind_1 ?_
  refine lv_iconst (v := 0) hx hb dX9_readsKind_4 rfl ?_
  refine lv_aload_n hx hb dX9_readsKind_5 rfl (lv_at hl 0 rfl) ?_
  obtain ⟨q6, e6, h⟩ := lb_bind h
  refine rc_X9_80 X hW e6 ⟨⟨rfl, rfl⟩, Nat.le_of_ble_eq_true rfl, Nat.le_of_ble_eq_true rfl⟩ hl.1 (Nat.le_of_ble_eq_true rfl) dX9_readsKind_6 ⟨Nat.zero_le _, Nat.zero_le _⟩ (fun H locs hW => ?_)
  refine rc_X9_84 X hW q6 ⟨⟨rfl, rfl⟩, Nat.le_of_ble_eq_true rfl, Nat.le_of_ble_eq_true rfl⟩ hl.1 (Nat.le_of_ble_eq_true rfl) dX9_readsKind_9 ⟨Nat.zero_le _, Nat.zero_le _⟩ (fun H locs hW => ?_)
  refine lb_ist X hW (show lb_ar 61 = 5 + 1 from rfl) (lb_inC rfl) dX9_readsKind_12 (fun H locs hW => ?_)
  obtain ⟨s12, e12⟩ : ∃ z, z = lb_sto σ 61 (0 : Int32).toNatClampNeg (f_X9_kindBy q6) := ⟨_, rfl⟩
  rw [← e12] at hW
  have h := lb_letI e12 h
  refine lv_aload_n hx hb dX9_readsKind_13 rfl (lv_at hl 0 rfl) ?_
  refine lv_dup hx hb dX9_readsKind_14 rfl ?_
  refine rg_X9_77 X hW dX9_readsKind_15 ?_
  refine lv_aload_n hx hb dX9_readsKind_18 rfl (lv_at hl 0 rfl) ?_
  refine rg_X9_31 X hW dX9_readsKind_19 ?_
  refine lv_iconst (v := 0) hx hb dX9_readsKind_22 rfl ?_
  refine lb_ild X hW (show lb_ar 61 = 5 + 1 from rfl) (lb_inC rfl) dX9_readsKind_23 ?_
  refine lv_if_ge (tgt := 31) hx hb dX9_readsKind_24 (by decide) (fun c24 => ?_) (fun c24 => ?_)
  · have h := (if_pos c24).symm.trans h
    refine lv_iconst (v := 1) hx hb dX9_readsKind_31 rfl ?_
    exact w_X9_readsKind_32 X s12 (s12 53 10) (1 : Int32) _ _ _ h hW (lv_sub hl [0] rfl)
  · have h := (if_neg c24).symm.trans h
    refine lv_iconst (v := 0) hx hb dX9_readsKind_27 rfl ?_
    refine lv_goto (tgt := 32) hx hb dX9_readsKind_28 (by decide) ?_
    exact w_X9_readsKind_32 X s12 (s12 53 10) (0 : Int32) _ _ _ h hW (lv_sub hl [0] rfl)
theorem rc_X9_87 {p : Program} {l : Launch} {e : Env} {R : Room} {s : State} {m : MethodId} {args : Array Value} {below : List Frame} {meth : Method} {c : Code} {H : Heap} {locs : List Loc} {cells slots : Nat} {Q : State → Prop} {cc : ByteArray} {pc nL : Nat} {ls : Array Slot} {rest : List Value} {G : lb_G} {σ : lb_Mem} {ret : Option FieldType} (X : lb_C G p s m args meth c cc nL RX9 ret) (hW : lb_W G s σ H locs) {x1 : Int32} {x2 : Int32} {qr : (Int32 × lb_Mem)} (h : f_X9_readsNumber x1 x2 σ = some qr) (hR : lb_room rmX9_readsNumber R 4) (hls : ls.size = nL) (hrest : (rest.map fun v => v.category).sum ≤ 8) (d : decode cc pc = .ok (.invokevirtual 87, 3)) (hcap : cells ≤ R.cells ∧ slots ≤ R.slots) (kk : ∀ (H1 : Heap) (locs1 : List Loc), lb_W G s qr.2 H1 locs1 → W p l e R s m args below meth c H1 locs1 cells slots Q (F0 m (pc + 3) ls (.int qr.1 :: rest))) : W p l e R s m args below meth c H locs cells slots Q (F0 m pc ls (.int x2 :: .int x1 :: .ref (lb_ad G 53) :: rest)) :=
  lb_goI hW (lb_runV (As := [.int x1, .int x2]) X hW (m_X9_readsNumber l G σ x1 x2 qr h) (n := 2) ⟨qw_826, qw_52, qw_829, by decide +kernel⟩ hR qw_828 qw_20 lb_is53 rfl hls hrest d hcap) kk
theorem rc_X9_91 {p : Program} {l : Launch} {e : Env} {R : Room} {s : State} {m : MethodId} {args : Array Value} {below : List Frame} {meth : Method} {c : Code} {H : Heap} {locs : List Loc} {cells slots : Nat} {Q : State → Prop} {cc : ByteArray} {pc nL : Nat} {ls : Array Slot} {rest : List Value} {G : lb_G} {σ : lb_Mem} {ret : Option FieldType} (X : lb_C G p s m args meth c cc nL RX9 ret) (hW : lb_W G s σ H locs) {qr : (Int32 × lb_Mem)} (h : f_X9_readsKind σ = some qr) (hR : lb_room rmX9_readsKind R 1) (hls : ls.size = nL) (hrest : (rest.map fun v => v.category).sum ≤ 8) (d : decode cc pc = .ok (.invokevirtual 91, 3)) (hcap : cells ≤ R.cells ∧ slots ≤ R.slots) (kk : ∀ (H1 : Heap) (locs1 : List Loc), lb_W G s qr.2 H1 locs1 → W p l e R s m args below meth c H1 locs1 cells slots Q (F0 m (pc + 3) ls (.int qr.1 :: rest))) : W p l e R s m args below meth c H locs cells slots Q (F0 m pc ls (.ref (lb_ad G 53) :: rest)) :=
  lb_goI hW (lb_runV (As := []) X hW (m_X9_readsKind l G σ qr h) (n := 0) ⟨qw_833, qw_52, qw_836, by decide +kernel⟩ hR qw_835 qw_21 lb_is53 rfl hls hrest d hcap) kk
abbrev rmX9_readsStatement : Room := { frames := 2, cells := 0, slots := 0, locals := 45 }
def f_X9_readsStatement_232 (x2 : Int32) (σ : lb_Mem) : Option (Int32 × lb_Mem) := if x2 = 0 then some ((0 : Int32), σ) else (f_X9_here σ).bind (fun q237 => if q237 = (59 : Int32) then lb_let (lb_sto σ 53 10 ((σ 53 10) + (1 : Int32))) (fun s254 : lb_Mem => some ((1 : Int32), s254)) else some ((0 : Int32), σ))
set_option maxRecDepth 20000 in
set_option maxHeartbeats 4000000 in
theorem w_X9_readsStatement_232 {p : Program} {l : Launch} {e : Env} {s : State} {m : MethodId} {args : Array Value} {below : List Frame} {meth : Method} {c : Code} {G : lb_G} {qr : (Int32 × lb_Mem)} (X : lb_C G p s m args meth c cX9_readsStatement 3 RX9 (some .boolean)) : ∀ (x2 : Int32) (σ : lb_Mem) (H : Heap) (locs : List Loc) (ls : Array Slot), f_X9_readsStatement_232 x2 σ = some qr → lb_W G s σ H locs → lv_has ls 3 [(0, .ref (lb_ad G 53)), (2, .int x2)] → W p l e rmX9_readsStatement s m args below meth c H locs 0 0 (MQ below (lb_QI G qr.1 qr.2) args s 0 0 (lb_A G)) (F0 m 232 ls []) := by
  have hx := X.1
  have hb := X.2.1
  intro x2 σ H locs ls h hW hl
  have h : (if x2 = 0 then some ((0 : Int32), σ) else (f_X9_here σ).bind (fun q237 => if q237 = (59 : Int32) then lb_let (lb_sto σ 53 10 ((σ 53 10) + (1 : Int32))) (fun s254 : lb_Mem => some ((1 : Int32), s254)) else some ((0 : Int32), σ))) = some qr := h
  refine lv_iload_n hx hb dX9_readsStatement_232 rfl (lv_at hl 1 rfl) ?_
  refine lv_if_eq (tgt := 245) hx hb dX9_readsStatement_233 (by decide) (fun c233 => ?_) (fun c233 => ?_)
  · have h := (if_pos c233).symm.trans h
    refine lv_iconst (v := 0) hx hb dX9_readsStatement_245 rfl ?_
    obtain rfl := Option.some.inj h
    exact lb_zret X hW (Or.inl rfl) dX9_readsStatement_246
  · have h := (if_neg c233).symm.trans h
    refine lv_aload_n hx hb dX9_readsStatement_236 rfl (lv_at hl 0 rfl) ?_
    obtain ⟨q237, e237, h⟩ := lb_bind h
    refine rc_X9_80 X hW e237 ⟨⟨rfl, rfl⟩, Nat.le_of_ble_eq_true rfl, Nat.le_of_ble_eq_true rfl⟩ hl.1 (Nat.le_of_ble_eq_true rfl) dX9_readsStatement_237 ⟨Nat.zero_le _, Nat.zero_le _⟩ (fun H locs hW => ?_)
    refine lv_bipush (v := 59) hx hb dX9_readsStatement_240 rfl ?_
    refine lv_icmp_eq (tgt := 247) hx hb dX9_readsStatement_242 (by decide) (fun c242 => ?_) (fun c242 => ?_)
    · have h := (if_pos c242).symm.trans h
      refine lv_aload_n hx hb dX9_readsStatement_247 rfl (lv_at hl 0 rfl) ?_
      refine lv_dup hx hb dX9_readsStatement_248 rfl ?_
      refine rg_X9_77 X hW dX9_readsStatement_249 ?_
      refine lv_iconst (v := 1) hx hb dX9_readsStatement_252 rfl ?_
      refine lv_iadd hx hb dX9_readsStatement_253 ?_
      refine rp_X9_77 X hW dX9_readsStatement_254 (fun H locs hW => ?_)
      obtain ⟨s254, e254⟩ : ∃ z, z = lb_sto σ 53 10 ((σ 53 10) + (1 : Int32)) := ⟨_, rfl⟩
      rw [← e254] at hW
      have h := lb_letI e254 h
      refine lv_iconst (v := 1) hx hb dX9_readsStatement_257 rfl ?_
      obtain rfl := Option.some.inj h
      exact lb_zret X hW (Or.inr rfl) dX9_readsStatement_258
    · have h := (if_neg c242).symm.trans h
      refine lv_iconst (v := 0) hx hb dX9_readsStatement_245 rfl ?_
      obtain rfl := Option.some.inj h
      exact lb_zret X hW (Or.inl rfl) dX9_readsStatement_246
def f_X9_readsStatement_206 (σ : lb_Mem) (y0 : Int32) : Option (Int32 × lb_Mem) := f_X9_readsStatement_232 y0 σ
set_option maxRecDepth 20000 in
set_option maxHeartbeats 4000000 in
theorem w_X9_readsStatement_206 {p : Program} {l : Launch} {e : Env} {s : State} {m : MethodId} {args : Array Value} {below : List Frame} {meth : Method} {c : Code} {G : lb_G} {qr : (Int32 × lb_Mem)} (X : lb_C G p s m args meth c cX9_readsStatement 3 RX9 (some .boolean)) : ∀ (σ : lb_Mem) (y0 : Int32) (H : Heap) (locs : List Loc) (ls : Array Slot), f_X9_readsStatement_206 σ y0 = some qr → lb_W G s σ H locs → lv_has ls 3 [(0, .ref (lb_ad G 53))] → W p l e rmX9_readsStatement s m args below meth c H locs 0 0 (MQ below (lb_QI G qr.1 qr.2) args s 0 0 (lb_A G)) (F0 m 206 ls [.int y0]) := by
  have hx := X.1
  have hb := X.2.1
  intro σ y0 H locs ls h hW hl
  have h : (f_X9_readsStatement_232 y0 σ) = some qr := h
  refine lv_istore_n (lv' := [(2, .int y0), (0, .ref (lb_ad G 53))]) hx hb dX9_readsStatement_206 rfl hl (by decide) rfl (fun ls hl => ?_)
  refine lv_goto (tgt := 232) hx hb dX9_readsStatement_207 (by decide) ?_
  exact w_X9_readsStatement_232 X y0 σ _ _ _ h hW (lv_sub hl [1, 0] rfl)
def f_X9_readsStatement_205 (σ : lb_Mem) : Option (Int32 × lb_Mem) := f_X9_readsStatement_206 σ (0 : Int32)
set_option maxRecDepth 20000 in
set_option maxHeartbeats 4000000 in
theorem w_X9_readsStatement_205 {p : Program} {l : Launch} {e : Env} {s : State} {m : MethodId} {args : Array Value} {below : List Frame} {meth : Method} {c : Code} {G : lb_G} {qr : (Int32 × lb_Mem)} (X : lb_C G p s m args meth c cX9_readsStatement 3 RX9 (some .boolean)) : ∀ (σ : lb_Mem) (H : Heap) (locs : List Loc) (ls : Array Slot), f_X9_readsStatement_205 σ = some qr → lb_W G s σ H locs → lv_has ls 3 [(0, .ref (lb_ad G 53))] → W p l e rmX9_readsStatement s m args below meth c H locs 0 0 (MQ below (lb_QI G qr.1 qr.2) args s 0 0 (lb_A G)) (F0 m 205 ls []) := by
  have hx := X.1
  have hb := X.2.1
  intro σ H locs ls h hW hl
  have h : (f_X9_readsStatement_206 σ (0 : Int32)) = some qr := h
  refine lv_iconst (v := 0) hx hb dX9_readsStatement_205 rfl ?_
  exact w_X9_readsStatement_206 X σ (0 : Int32) _ _ _ h hW (lv_sub hl [0] rfl)
def f_X9_readsStatement_179 (σ : lb_Mem) (y0 : Int32) : Option (Int32 × lb_Mem) := f_X9_readsStatement_232 y0 σ
set_option maxRecDepth 20000 in
set_option maxHeartbeats 4000000 in
theorem w_X9_readsStatement_179 {p : Program} {l : Launch} {e : Env} {s : State} {m : MethodId} {args : Array Value} {below : List Frame} {meth : Method} {c : Code} {G : lb_G} {qr : (Int32 × lb_Mem)} (X : lb_C G p s m args meth c cX9_readsStatement 3 RX9 (some .boolean)) : ∀ (σ : lb_Mem) (y0 : Int32) (H : Heap) (locs : List Loc) (ls : Array Slot), f_X9_readsStatement_179 σ y0 = some qr → lb_W G s σ H locs → lv_has ls 3 [(0, .ref (lb_ad G 53))] → W p l e rmX9_readsStatement s m args below meth c H locs 0 0 (MQ below (lb_QI G qr.1 qr.2) args s 0 0 (lb_A G)) (F0 m 179 ls [.int y0]) := by
  have hx := X.1
  have hb := X.2.1
  intro σ y0 H locs ls h hW hl
  have h : (f_X9_readsStatement_232 y0 σ) = some qr := h
  refine lv_istore_n (lv' := [(2, .int y0), (0, .ref (lb_ad G 53))]) hx hb dX9_readsStatement_179 rfl hl (by decide) rfl (fun ls hl => ?_)
  refine lv_goto (tgt := 232) hx hb dX9_readsStatement_180 (by decide) ?_
  exact w_X9_readsStatement_232 X y0 σ _ _ _ h hW (lv_sub hl [1, 0] rfl)
def f_X9_readsStatement_178 (σ : lb_Mem) : Option (Int32 × lb_Mem) := f_X9_readsStatement_179 σ (0 : Int32)
set_option maxRecDepth 20000 in
set_option maxHeartbeats 4000000 in
theorem w_X9_readsStatement_178 {p : Program} {l : Launch} {e : Env} {s : State} {m : MethodId} {args : Array Value} {below : List Frame} {meth : Method} {c : Code} {G : lb_G} {qr : (Int32 × lb_Mem)} (X : lb_C G p s m args meth c cX9_readsStatement 3 RX9 (some .boolean)) : ∀ (σ : lb_Mem) (H : Heap) (locs : List Loc) (ls : Array Slot), f_X9_readsStatement_178 σ = some qr → lb_W G s σ H locs → lv_has ls 3 [(0, .ref (lb_ad G 53))] → W p l e rmX9_readsStatement s m args below meth c H locs 0 0 (MQ below (lb_QI G qr.1 qr.2) args s 0 0 (lb_A G)) (F0 m 178 ls []) := by
  have hx := X.1
  have hb := X.2.1
  intro σ H locs ls h hW hl
  have h : (f_X9_readsStatement_179 σ (0 : Int32)) = some qr := h
  refine lv_iconst (v := 0) hx hb dX9_readsStatement_178 rfl ?_
  exact w_X9_readsStatement_179 X σ (0 : Int32) _ _ _ h hW (lv_sub hl [0] rfl)
def f_X9_readsStatement (σ : lb_Mem) : Option (Int32 × lb_Mem) := (f_X9_here σ).bind (fun q1 => lb_let (lb_sto σ 53 10 ((σ 53 10) + (1 : Int32))) (fun s12 : lb_Mem => if q1 = 102 then (f_X9_readsNumber (0 : Int32) (1 : Int32) s12).bind (fun q186 => if q186.1 = 0 then f_X9_readsStatement_205 q186.2 else (f_X9_readsNumber (1 : Int32) (1 : Int32) q186.2).bind (fun q195 => if q195.1 = 0 then f_X9_readsStatement_205 q195.2 else f_X9_readsStatement_206 q195.2 (1 : Int32))) else if q1 = 103 then (f_X9_readsNumber (0 : Int32) (1 : Int32) s12).bind (fun q186 => if q186.1 = 0 then f_X9_readsStatement_205 q186.2 else (f_X9_readsNumber (1 : Int32) (1 : Int32) q186.2).bind (fun q195 => if q195.1 = 0 then f_X9_readsStatement_205 q195.2 else f_X9_readsStatement_206 q195.2 (1 : Int32))) else if q1 = 106 then (f_X9_readsKind s12).bind (fun q123 => if q123.1 = 0 then f_X9_readsStatement_178 q123.2 else (f_X9_readsNumber (1 : Int32) (1 : Int32) q123.2).bind (fun q132 => if q132.1 = 0 then f_X9_readsStatement_178 q132.2 else (f_X9_readsNumber (2 : Int32) (1 : Int32) q132.2).bind (fun q141 => if q141.1 = 0 then f_X9_readsStatement_178 q141.2 else (f_X9_readsNumber (3 : Int32) (1 : Int32) q141.2).bind (fun q150 => if q150.1 = 0 then f_X9_readsStatement_178 q150.2 else (f_X9_readsNumber (4 : Int32) (1 : Int32) q150.2).bind (fun q159 => if q159.1 = 0 then f_X9_readsStatement_178 q159.2 else (f_X9_readsNumber (5 : Int32) (1 : Int32) q159.2).bind (fun q168 => if q168.1 = 0 then f_X9_readsStatement_178 q168.2 else f_X9_readsStatement_179 q168.2 (1 : Int32))))))) else if q1 = 107 then (f_X9_readsNumber (0 : Int32) (1 : Int32) s12).bind (fun q186 => if q186.1 = 0 then f_X9_readsStatement_205 q186.2 else (f_X9_readsNumber (1 : Int32) (1 : Int32) q186.2).bind (fun q195 => if q195.1 = 0 then f_X9_readsStatement_205 q195.2 else f_X9_readsStatement_206 q195.2 (1 : Int32))) else if q1 = 108 then (f_X9_readsNumber (0 : Int32) (1 : Int32) s12).bind (fun q186 => if q186.1 = 0 then f_X9_readsStatement_205 q186.2 else (f_X9_readsNumber (1 : Int32) (1 : Int32) q186.2).bind (fun q195 => if q195.1 = 0 then f_X9_readsStatement_205 q195.2 else f_X9_readsStatement_206 q195.2 (1 : Int32))) else if q1 = 112 then (f_X9_readsNumber (0 : Int32) (1 : Int32) s12).bind (fun q115 => f_X9_readsStatement_232 q115.1 q115.2) else if q1 = 121 then (f_X9_readsNumber (0 : Int32) (2 : Int32) s12).bind (fun q213 => f_X9_readsStatement_232 q213.1 q213.2) else lb_let (lb_sto s12 53 10 ((s12 53 10) - (1 : Int32))) (fun s227 : lb_Mem => some ((0 : Int32), s227))))
set_option maxRecDepth 20000 in
set_option maxHeartbeats 4000000 in
theorem m_X9_readsStatement (l : Launch) (G : lb_G) (σ : lb_Mem) (qr : (Int32 × lb_Mem)) (h : f_X9_readsStatement σ = some qr) : lb_M l yX9_readsStatement cX9_readsStatement 3 (some .boolean) rmX9_readsStatement [.ref (lb_ad G 53)] G σ (lb_QI G qr.1 qr.2) := by
  refine lb_start RX9 (by decide +kernel) rfl (Nat.le_of_ble_eq_true rfl) (fun p e s m below meth c X hW ls hl => ?_)
  have hx := X.1
  have hb := X.2.1
  have hl : lv_has ls 3 [(0, .ref (lb_ad G 53))] := hl
  have h : ((f_X9_here σ).bind (fun q1 => lb_let (lb_sto σ 53 10 ((σ 53 10) + (1 : Int32))) (fun s12 : lb_Mem => if q1 = 102 then (f_X9_readsNumber (0 : Int32) (1 : Int32) s12).bind (fun q186 => if q186.1 = 0 then f_X9_readsStatement_205 q186.2 else (f_X9_readsNumber (1 : Int32) (1 : Int32) q186.2).bind (fun q195 => if q195.1 = 0 then f_X9_readsStatement_205 q195.2 else f_X9_readsStatement_206 q195.2 (1 : Int32))) else if q1 = 103 then (f_X9_readsNumber (0 : Int32) (1 : Int32) s12).bind (fun q186 => if q186.1 = 0 then f_X9_readsStatement_205 q186.2 else (f_X9_readsNumber (1 : Int32) (1 : Int32) q186.2).bind (fun q195 => if q195.1 = 0 then f_X9_readsStatement_205 q195.2 else f_X9_readsStatement_206 q195.2 (1 : Int32))) else if q1 = 106 then (f_X9_readsKind s12).bind (fun q123 => if q123.1 = 0 then f_X9_readsStatement_178 q123.2 else (f_X9_readsNumber (1 : Int32) (1 : Int32) q123.2).bind (fun q132 => if q132.1 = 0 then f_X9_readsStatement_178 q132.2 else (f_X9_readsNumber (2 : Int32) (1 : Int32) q132.2).bind (fun q141 => if q141.1 = 0 then f_X9_readsStatement_178 q141.2 else (f_X9_readsNumber (3 : Int32) (1 : Int32) q141.2).bind (fun q150 => if q150.1 = 0 then f_X9_readsStatement_178 q150.2 else (f_X9_readsNumber (4 : Int32) (1 : Int32) q150.2).bind (fun q159 => if q159.1 = 0 then f_X9_readsStatement_178 q159.2 else (f_X9_readsNumber (5 : Int32) (1 : Int32) q159.2).bind (fun q168 => if q168.1 = 0 then f_X9_readsStatement_178 q168.2 else f_X9_readsStatement_179 q168.2 (1 : Int32))))))) else if q1 = 107 then (f_X9_readsNumber (0 : Int32) (1 : Int32) s12).bind (fun q186 => if q186.1 = 0 then f_X9_readsStatement_205 q186.2 else (f_X9_readsNumber (1 : Int32) (1 : Int32) q186.2).bind (fun q195 => if q195.1 = 0 then f_X9_readsStatement_205 q195.2 else f_X9_readsStatement_206 q195.2 (1 : Int32))) else if q1 = 108 then (f_X9_readsNumber (0 : Int32) (1 : Int32) s12).bind (fun q186 => if q186.1 = 0 then f_X9_readsStatement_205 q186.2 else (f_X9_readsNumber (1 : Int32) (1 : Int32) q186.2).bind (fun q195 => if q195.1 = 0 then f_X9_readsStatement_205 q195.2 else f_X9_readsStatement_206 q195.2 (1 : Int32))) else if q1 = 112 then (f_X9_readsNumber (0 : Int32) (1 : Int32) s12).bind (fun q115 => f_X9_readsStatement_232 q115.1 q115.2) else if q1 = 121 then (f_X9_readsNumber (0 : Int32) (2 : Int32) s12).bind (fun q213 => f_X9_readsStatement_232 q213.1 q213.2) else lb_let (lb_sto s12 53 10 ((s12 53 10) - (1 : Int32))) (fun s227 : lb_Mem => some ((0 : Int32), s227))))) = some qr := h
  skip
  refine lv_aload_n hx hb dX9_readsStatement_0 rfl (lv_at hl 0 rfl) ?_
  obtain ⟨q1, e1, h⟩ := lb_bind h
  refine rc_X9_80 X hW e1 ⟨⟨rfl, rfl⟩, Nat.le_of_ble_eq_true rfl, Nat.le_of_ble_eq_true rfl⟩ hl.1 (Nat.le_of_ble_eq_true rfl) dX9_readsStatement_1 ⟨Nat.zero_le _, Nat.zero_le _⟩ (fun H locs hW => ?_)
  refine lv_istore_n (lv' := [(1, .int q1), (0, .ref (lb_ad G 53))]) hx hb dX9_readsStatement_4 rfl hl (by decide) rfl (fun ls hl => ?_)
  refine lv_aload_n hx hb dX9_readsStatement_5 rfl (lv_at hl 1 rfl) ?_
  refine lv_dup hx hb dX9_readsStatement_6 rfl ?_
  refine rg_X9_77 X hW dX9_readsStatement_7 ?_
  refine lv_iconst (v := 1) hx hb dX9_readsStatement_10 rfl ?_
  refine lv_iadd hx hb dX9_readsStatement_11 ?_
  refine rp_X9_77 X hW dX9_readsStatement_12 (fun H locs hW => ?_)
  obtain ⟨s12, e12⟩ : ∃ z, z = lb_sto σ 53 10 ((σ 53 10) + (1 : Int32)) := ⟨_, rfl⟩
  rw [← e12] at hW
  have h := lb_letI e12 h
  refine lv_iload_n hx hb dX9_readsStatement_15 rfl (lv_at hl 0 rfl) ?_
  by_cases c16_102 : q1 = 102
  · have h := (if_pos c16_102).symm.trans h
    refine lv_tableIn (tgt := 183) hx hb dX9_readsStatement_16 (by rw [c16_102]; decide) (by rw [c16_102]; decide) (off := 167) (by rw [c16_102]; rfl) (by decide) ?_
    refine lv_aload_n hx hb dX9_readsStatement_183 rfl (lv_at hl 1 rfl) ?_
    refine lv_iconst (v := 0) hx hb dX9_readsStatement_184 rfl ?_
    refine lv_iconst (v := 1) hx hb dX9_readsStatement_185 rfl ?_
    obtain ⟨q186, e186, h⟩ := lb_bind h
    refine rc_X9_87 X hW e186 ⟨⟨rfl, rfl⟩, Nat.le_of_ble_eq_true rfl, Nat.le_of_ble_eq_true rfl⟩ hl.1 (Nat.le_of_ble_eq_true rfl) dX9_readsStatement_186 ⟨Nat.zero_le _, Nat.zero_le _⟩ (fun H locs hW => ?_)
    refine lv_if_eq (tgt := 205) hx hb dX9_readsStatement_189 (by decide) (fun c189 => ?_) (fun c189 => ?_)
    · have h := (if_pos c189).symm.trans h
      exact w_X9_readsStatement_205 X q186.2 _ _ _ h hW (lv_sub hl [1] rfl)
    · have h := (if_neg c189).symm.trans h
      refine lv_aload_n hx hb dX9_readsStatement_192 rfl (lv_at hl 1 rfl) ?_
      refine lv_iconst (v := 1) hx hb dX9_readsStatement_193 rfl ?_
      refine lv_iconst (v := 1) hx hb dX9_readsStatement_194 rfl ?_
      obtain ⟨q195, e195, h⟩ := lb_bind h
      refine rc_X9_87 X hW e195 ⟨⟨rfl, rfl⟩, Nat.le_of_ble_eq_true rfl, Nat.le_of_ble_eq_true rfl⟩ hl.1 (Nat.le_of_ble_eq_true rfl) dX9_readsStatement_195 ⟨Nat.zero_le _, Nat.zero_le _⟩ (fun H locs hW => ?_)
      refine lv_if_eq (tgt := 205) hx hb dX9_readsStatement_198 (by decide) (fun c198 => ?_) (fun c198 => ?_)
      · have h := (if_pos c198).symm.trans h
        exact w_X9_readsStatement_205 X q195.2 _ _ _ h hW (lv_sub hl [1] rfl)
      · have h := (if_neg c198).symm.trans h
        refine lv_iconst (v := 1) hx hb dX9_readsStatement_201 rfl ?_
        refine lv_goto (tgt := 206) hx hb dX9_readsStatement_202 (by decide) ?_
        exact w_X9_readsStatement_206 X q195.2 (1 : Int32) _ _ _ h hW (lv_sub hl [1] rfl)
  have h := (if_neg c16_102).symm.trans h
  by_cases c16_103 : q1 = 103
  · have h := (if_pos c16_103).symm.trans h
    refine lv_tableIn (tgt := 183) hx hb dX9_readsStatement_16 (by rw [c16_103]; decide) (by rw [c16_103]; decide) (off := 167) (by rw [c16_103]; rfl) (by decide) ?_
    refine lv_aload_n hx hb dX9_readsStatement_183 rfl (lv_at hl 1 rfl) ?_
    refine lv_iconst (v := 0) hx hb dX9_readsStatement_184 rfl ?_
    refine lv_iconst (v := 1) hx hb dX9_readsStatement_185 rfl ?_
    obtain ⟨q186, e186, h⟩ := lb_bind h
    refine rc_X9_87 X hW e186 ⟨⟨rfl, rfl⟩, Nat.le_of_ble_eq_true rfl, Nat.le_of_ble_eq_true rfl⟩ hl.1 (Nat.le_of_ble_eq_true rfl) dX9_readsStatement_186 ⟨Nat.zero_le _, Nat.zero_le _⟩ (fun H locs hW => ?_)
    refine lv_if_eq (tgt := 205) hx hb dX9_readsStatement_189 (by decide) (fun c189 => ?_) (fun c189 => ?_)
    · have h := (if_pos c189).symm.trans h
      exact w_X9_readsStatement_205 X q186.2 _ _ _ h hW (lv_sub hl [1] rfl)
    · have h := (if_neg c189).symm.trans h
      refine lv_aload_n hx hb dX9_readsStatement_192 rfl (lv_at hl 1 rfl) ?_
      refine lv_iconst (v := 1) hx hb dX9_readsStatement_193 rfl ?_
      refine lv_iconst (v := 1) hx hb dX9_readsStatement_194 rfl ?_
      obtain ⟨q195, e195, h⟩ := lb_bind h
      refine rc_X9_87 X hW e195 ⟨⟨rfl, rfl⟩, Nat.le_of_ble_eq_true rfl, Nat.le_of_ble_eq_true rfl⟩ hl.1 (Nat.le_of_ble_eq_true rfl) dX9_readsStatement_195 ⟨Nat.zero_le _, Nat.zero_le _⟩ (fun H locs hW => ?_)
      refine lv_if_eq (tgt := 205) hx hb dX9_readsStatement_198 (by decide) (fun c198 => ?_) (fun c198 => ?_)
      · have h := (if_pos c198).symm.trans h
        exact w_X9_readsStatement_205 X q195.2 _ _ _ h hW (lv_sub hl [1] rfl)
      · have h := (if_neg c198).symm.trans h
        refine lv_iconst (v := 1) hx hb dX9_readsStatement_201 rfl ?_
        refine lv_goto (tgt := 206) hx hb dX9_readsStatement_202 (by decide) ?_
        exact w_X9_readsStatement_206 X q195.2 (1 : Int32) _ _ _ h hW (lv_sub hl [1] rfl)
  have h := (if_neg c16_103).symm.trans h
  by_cases c16_106 : q1 = 106
  · have h := (if_pos c16_106).symm.trans h
    refine lv_tableIn (tgt := 122) hx hb dX9_readsStatement_16 (by rw [c16_106]; decide) (by rw [c16_106]; decide) (off := 106) (by rw [c16_106]; rfl) (by decide) ?_
    refine lv_aload_n hx hb dX9_readsStatement_122 rfl (lv_at hl 1 rfl) ?_
    obtain ⟨q123, e123, h⟩ := lb_bind h
    refine rc_X9_91 X hW e123 ⟨⟨rfl, rfl⟩, Nat.le_of_ble_eq_true rfl, Nat.le_of_ble_eq_true rfl⟩ hl.1 (Nat.le_of_ble_eq_true rfl) dX9_readsStatement_123 ⟨Nat.zero_le _, Nat.zero_le _⟩ (fun H locs hW => ?_)
    refine lv_if_eq (tgt := 178) hx hb dX9_readsStatement_126 (by decide) (fun c126 => ?_) (fun c126 => ?_)
    · have h := (if_pos c126).symm.trans h
      exact w_X9_readsStatement_178 X q123.2 _ _ _ h hW (lv_sub hl [1] rfl)
    · have h := (if_neg c126).symm.trans h
      refine lv_aload_n hx hb dX9_readsStatement_129 rfl (lv_at hl 1 rfl) ?_
      refine lv_iconst (v := 1) hx hb dX9_readsStatement_130 rfl ?_
      refine lv_iconst (v := 1) hx hb dX9_readsStatement_131 rfl ?_
      obtain ⟨q132, e132, h⟩ := lb_bind h
      refine rc_X9_87 X hW e132 ⟨⟨rfl, rfl⟩, Nat.le_of_ble_eq_true rfl, Nat.le_of_ble_eq_true rfl⟩ hl.1 (Nat.le_of_ble_eq_true rfl) dX9_readsStatement_132 ⟨Nat.zero_le _, Nat.zero_le _⟩ (fun H locs hW => ?_)
      refine lv_if_eq (tgt := 178) hx hb dX9_readsStatement_135 (by decide) (fun c135 => ?_) (fun c135 => ?_)
      · have h := (if_pos c135).symm.trans h
        exact w_X9_readsStatement_178 X q132.2 _ _ _ h hW (lv_sub hl [1] rfl)
      · have h := (if_neg c135).symm.trans h
        refine lv_aload_n hx hb dX9_readsStatement_138 rfl (lv_at hl 1 rfl) ?_
        refine lv_iconst (v := 2) hx hb dX9_readsStatement_139 rfl ?_
        refine lv_iconst (v := 1) hx hb dX9_readsStatement_140 rfl ?_
        obtain ⟨q141, e141, h⟩ := lb_bind h
        refine rc_X9_87 X hW e141 ⟨⟨rfl, rfl⟩, Nat.le_of_ble_eq_true rfl, Nat.le_of_ble_eq_true rfl⟩ hl.1 (Nat.le_of_ble_eq_true rfl) dX9_readsStatement_141 ⟨Nat.zero_le _, Nat.zero_le _⟩ (fun H locs hW => ?_)
        refine lv_if_eq (tgt := 178) hx hb dX9_readsStatement_144 (by decide) (fun c144 => ?_) (fun c144 => ?_)
        · have h := (if_pos c144).symm.trans h
          exact w_X9_readsStatement_178 X q141.2 _ _ _ h hW (lv_sub hl [1] rfl)
        · have h := (if_neg c144).symm.trans h
          refine lv_aload_n hx hb dX9_readsStatement_147 rfl (lv_at hl 1 rfl) ?_
          refine lv_iconst (v := 3) hx hb dX9_readsStatement_148 rfl ?_
          refine lv_iconst (v := 1) hx hb dX9_readsStatement_149 rfl ?_
          obtain ⟨q150, e150, h⟩ := lb_bind h
          refine rc_X9_87 X hW e150 ⟨⟨rfl, rfl⟩, Nat.le_of_ble_eq_true rfl, Nat.le_of_ble_eq_true rfl⟩ hl.1 (Nat.le_of_ble_eq_true rfl) dX9_readsStatement_150 ⟨Nat.zero_le _, Nat.zero_le _⟩ (fun H locs hW => ?_)
          refine lv_if_eq (tgt := 178) hx hb dX9_readsStatement_153 (by decide) (fun c153 => ?_) (fun c153 => ?_)
          · have h := (if_pos c153).symm.trans h
            exact w_X9_readsStatement_178 X q150.2 _ _ _ h hW (lv_sub hl [1] rfl)
          · have h := (if_neg c153).symm.trans h
            refine lv_aload_n hx hb dX9_readsStatement_156 rfl (lv_at hl 1 rfl) ?_
            refine lv_iconst (v := 4) hx hb dX9_readsStatement_157 rfl ?_
            refine lv_iconst (v := 1) hx hb dX9_readsStatement_158 rfl ?_
            obtain ⟨q159, e159, h⟩ := lb_bind h
            refine rc_X9_87 X hW e159 ⟨⟨rfl, rfl⟩, Nat.le_of_ble_eq_true rfl, Nat.le_of_ble_eq_true rfl⟩ hl.1 (Nat.le_of_ble_eq_true rfl) dX9_readsStatement_159 ⟨Nat.zero_le _, Nat.zero_le _⟩ (fun H locs hW => ?_)
            refine lv_if_eq (tgt := 178) hx hb dX9_readsStatement_162 (by decide) (fun c162 => ?_) (fun c162 => ?_)
            · have h := (if_pos c162).symm.trans h
              exact w_X9_readsStatement_178 X q159.2 _ _ _ h hW (lv_sub hl [1] rfl)
            · have h := (if_neg c162).symm.trans h
              refine lv_aload_n hx hb dX9_readsStatement_165 rfl (lv_at hl 1 rfl) ?_
              refine lv_iconst (v := 5) hx hb dX9_readsStatement_166 rfl ?_
              refine lv_iconst (v := 1) hx hb dX9_readsStatement_167 rfl ?_
              obtain ⟨q168, e168, h⟩ := lb_bind h
              refine rc_X9_87 X hW e168 ⟨⟨rfl, rfl⟩, Nat.le_of_ble_eq_true rfl, Nat.le_of_ble_eq_true rfl⟩ hl.1 (Nat.le_of_ble_eq_true rfl) dX9_readsStatement_168 ⟨Nat.zero_le _, Nat.zero_le _⟩ (fun H locs hW => ?_)
              refine lv_if_eq (tgt := 178) hx hb dX9_readsStatement_171 (by decide) (fun c171 => ?_) (fun c171 => ?_)
              · have h := (if_pos c171).symm.trans h
                exact w_X9_readsStatement_178 X q168.2 _ _ _ h hW (lv_sub hl [1] rfl)
              · have h := (if_neg c171).symm.trans h
                refine lv_iconst (v := 1) hx hb dX9_readsStatement_174 rfl ?_
                refine lv_goto (tgt := 179) hx hb dX9_readsStatement_175 (by decide) ?_
                exact w_X9_readsStatement_179 X q168.2 (1 : Int32) _ _ _ h hW (lv_sub hl [1] rfl)
  have h := (if_neg c16_106).symm.trans h
  by_cases c16_107 : q1 = 107
  · have h := (if_pos c16_107).symm.trans h
    refine lv_tableIn (tgt := 183) hx hb dX9_readsStatement_16 (by rw [c16_107]; decide) (by rw [c16_107]; decide) (off := 167) (by rw [c16_107]; rfl) (by decide) ?_
    refine lv_aload_n hx hb dX9_readsStatement_183 rfl (lv_at hl 1 rfl) ?_
    refine lv_iconst (v := 0) hx hb dX9_readsStatement_184 rfl ?_
    refine lv_iconst (v := 1) hx hb dX9_readsStatement_185 rfl ?_
    obtain ⟨q186, e186, h⟩ := lb_bind h
    refine rc_X9_87 X hW e186 ⟨⟨rfl, rfl⟩, Nat.le_of_ble_eq_true rfl, Nat.le_of_ble_eq_true rfl⟩ hl.1 (Nat.le_of_ble_eq_true rfl) dX9_readsStatement_186 ⟨Nat.zero_le _, Nat.zero_le _⟩ (fun H locs hW => ?_)
    refine lv_if_eq (tgt := 205) hx hb dX9_readsStatement_189 (by decide) (fun c189 => ?_) (fun c189 => ?_)
    · have h := (if_pos c189).symm.trans h
      exact w_X9_readsStatement_205 X q186.2 _ _ _ h hW (lv_sub hl [1] rfl)
    · have h := (if_neg c189).symm.trans h
      refine lv_aload_n hx hb dX9_readsStatement_192 rfl (lv_at hl 1 rfl) ?_
      refine lv_iconst (v := 1) hx hb dX9_readsStatement_193 rfl ?_
      refine lv_iconst (v := 1) hx hb dX9_readsStatement_194 rfl ?_
      obtain ⟨q195, e195, h⟩ := lb_bind h
      refine rc_X9_87 X hW e195 ⟨⟨rfl, rfl⟩, Nat.le_of_ble_eq_true rfl, Nat.le_of_ble_eq_true rfl⟩ hl.1 (Nat.le_of_ble_eq_true rfl) dX9_readsStatement_195 ⟨Nat.zero_le _, Nat.zero_le _⟩ (fun H locs hW => ?_)
      refine lv_if_eq (tgt := 205) hx hb dX9_readsStatement_198 (by decide) (fun c198 => ?_) (fun c198 => ?_)
      · have h := (if_pos c198).symm.trans h
        exact w_X9_readsStatement_205 X q195.2 _ _ _ h hW (lv_sub hl [1] rfl)
      · have h := (if_neg c198).symm.trans h
        refine lv_iconst (v := 1) hx hb dX9_readsStatement_201 rfl ?_
        refine lv_goto (tgt := 206) hx hb dX9_readsStatement_202 (by decide) ?_
        exact w_X9_readsStatement_206 X q195.2 (1 : Int32) _ _ _ h hW (lv_sub hl [1] rfl)
  have h := (if_neg c16_107).symm.trans h
  by_cases c16_108 : q1 = 108
  · have h := (if_pos c16_108).symm.trans h
    refine lv_tableIn (tgt := 183) hx hb dX9_readsStatement_16 (by rw [c16_108]; decide) (by rw [c16_108]; decide) (off := 167) (by rw [c16_108]; rfl) (by decide) ?_
    refine lv_aload_n hx hb dX9_readsStatement_183 rfl (lv_at hl 1 rfl) ?_
    refine lv_iconst (v := 0) hx hb dX9_readsStatement_184 rfl ?_
    refine lv_iconst (v := 1) hx hb dX9_readsStatement_185 rfl ?_
    obtain ⟨q186, e186, h⟩ := lb_bind h
    refine rc_X9_87 X hW e186 ⟨⟨rfl, rfl⟩, Nat.le_of_ble_eq_true rfl, Nat.le_of_ble_eq_true rfl⟩ hl.1 (Nat.le_of_ble_eq_true rfl) dX9_readsStatement_186 ⟨Nat.zero_le _, Nat.zero_le _⟩ (fun H locs hW => ?_)
    refine lv_if_eq (tgt := 205) hx hb dX9_readsStatement_189 (by decide) (fun c189 => ?_) (fun c189 => ?_)
    · have h := (if_pos c189).symm.trans h
      exact w_X9_readsStatement_205 X q186.2 _ _ _ h hW (lv_sub hl [1] rfl)
    · have h := (if_neg c189).symm.trans h
      refine lv_aload_n hx hb dX9_readsStatement_192 rfl (lv_at hl 1 rfl) ?_
      refine lv_iconst (v := 1) hx hb dX9_readsStatement_193 rfl ?_
      refine lv_iconst (v := 1) hx hb dX9_readsStatement_194 rfl ?_
      obtain ⟨q195, e195, h⟩ := lb_bind h
      refine rc_X9_87 X hW e195 ⟨⟨rfl, rfl⟩, Nat.le_of_ble_eq_true rfl, Nat.le_of_ble_eq_true rfl⟩ hl.1 (Nat.le_of_ble_eq_true rfl) dX9_readsStatement_195 ⟨Nat.zero_le _, Nat.zero_le _⟩ (fun H locs hW => ?_)
      refine lv_if_eq (tgt := 205) hx hb dX9_readsStatement_198 (by decide) (fun c198 => ?_) (fun c198 => ?_)
      · have h := (if_pos c198).symm.trans h
        exact w_X9_readsStatement_205 X q195.2 _ _ _ h hW (lv_sub hl [1] rfl)
      · have h := (if_neg c198).symm.trans h
        refine lv_iconst (v := 1) hx hb dX9_readsStatement_201 rfl ?_
        refine lv_goto (tgt := 206) hx hb dX9_readsStatement_202 (by decide) ?_
        exact w_X9_readsStatement_206 X q195.2 (1 : Int32) _ _ _ h hW (lv_sub hl [1] rfl)
  have h := (if_neg c16_108).symm.trans h
  by_cases c16_112 : q1 = 112
  · have h := (if_pos c16_112).symm.trans h
    refine lv_tableIn (tgt := 112) hx hb dX9_readsStatement_16 (by rw [c16_112]; decide) (by rw [c16_112]; decide) (off := 96) (by rw [c16_112]; rfl) (by decide) ?_
    refine lv_aload_n hx hb dX9_readsStatement_112 rfl (lv_at hl 1 rfl) ?_
    refine lv_iconst (v := 0) hx hb dX9_readsStatement_113 rfl ?_
    refine lv_iconst (v := 1) hx hb dX9_readsStatement_114 rfl ?_
    obtain ⟨q115, e115, h⟩ := lb_bind h
    refine rc_X9_87 X hW e115 ⟨⟨rfl, rfl⟩, Nat.le_of_ble_eq_true rfl, Nat.le_of_ble_eq_true rfl⟩ hl.1 (Nat.le_of_ble_eq_true rfl) dX9_readsStatement_115 ⟨Nat.zero_le _, Nat.zero_le _⟩ (fun H locs hW => ?_)
    refine lv_istore_n (lv' := [(2, .int q115.1), (1, .int q1), (0, .ref (lb_ad G 53))]) hx hb dX9_readsStatement_118 rfl hl (by decide) rfl (fun ls hl => ?_)
    refine lv_goto (tgt := 232) hx hb dX9_readsStatement_119 (by decide) ?_
    exact w_X9_readsStatement_232 X q115.1 q115.2 _ _ _ h hW (lv_sub hl [2, 0] rfl)
  have h := (if_neg c16_112).symm.trans h
  by_cases c16_121 : q1 = 121
  · have h := (if_pos c16_121).symm.trans h
    refine lv_tableIn (tgt := 210) hx hb dX9_readsStatement_16 (by rw [c16_121]; decide) (by rw [c16_121]; decide) (off := 194) (by rw [c16_121]; rfl) (by decide) ?_
    refine lv_aload_n hx hb dX9_readsStatement_210 rfl (lv_at hl 1 rfl) ?_
    refine lv_iconst (v := 0) hx hb dX9_readsStatement_211 rfl ?_
    refine lv_iconst (v := 2) hx hb dX9_readsStatement_212 rfl ?_
    obtain ⟨q213, e213, h⟩ := lb_bind h
    refine rc_X9_87 X hW e213 ⟨⟨rfl, rfl⟩, Nat.le_of_ble_eq_true rfl, Nat.le_of_ble_eq_true rfl⟩ hl.1 (Nat.le_of_ble_eq_true rfl) dX9_readsStatement_213 ⟨Nat.zero_le _, Nat.zero_le _⟩ (fun H locs hW => ?_)
    refine lv_istore_n (lv' := [(2, .int q213.1), (1, .int q1), (0, .ref (lb_ad G 53))]) hx hb dX9_readsStatement_216 rfl hl (by decide) rfl (fun ls hl => ?_)
    refine lv_goto (tgt := 232) hx hb dX9_readsStatement_217 (by decide) ?_
    exact w_X9_readsStatement_232 X q213.1 q213.2 _ _ _ h hW (lv_sub hl [2, 0] rfl)
  have h := (if_neg c16_121).symm.trans h
  refine lb_tswD (tgt := 220) (lb_kn_cons c16_102 (lb_kn_cons c16_103 (lb_kn_cons c16_106 (lb_kn_cons c16_107 (lb_kn_cons c16_108 (lb_kn_cons c16_112 (lb_kn_cons c16_121 lb_kn_nil))))))) hx hb dX9_readsStatement_16 (by decide) (by decide) (by decide) (by decide) (by decide) ?_
  refine lv_aload_n hx hb dX9_readsStatement_220 rfl (lv_at hl 1 rfl) ?_
  refine lv_dup hx hb dX9_readsStatement_221 rfl ?_
  refine rg_X9_77 X hW dX9_readsStatement_222 ?_
  refine lv_iconst (v := 1) hx hb dX9_readsStatement_225 rfl ?_
  refine lv_isub hx hb dX9_readsStatement_226 ?_
  refine rp_X9_77 X hW dX9_readsStatement_227 (fun H locs hW => ?_)
  obtain ⟨s227, e227⟩ : ∃ z, z = lb_sto s12 53 10 ((s12 53 10) - (1 : Int32)) := ⟨_, rfl⟩
  rw [← e227] at hW
  have h := lb_letI e227 h
  refine lv_iconst (v := 0) hx hb dX9_readsStatement_230 rfl ?_
  obtain rfl := Option.some.inj h
  exact lb_zret X hW (Or.inl rfl) dX9_readsStatement_231
theorem rc_X9_95 {p : Program} {l : Launch} {e : Env} {R : Room} {s : State} {m : MethodId} {args : Array Value} {below : List Frame} {meth : Method} {c : Code} {H : Heap} {locs : List Loc} {cells slots : Nat} {Q : State → Prop} {cc : ByteArray} {pc nL : Nat} {ls : Array Slot} {rest : List Value} {G : lb_G} {σ : lb_Mem} {ret : Option FieldType} (X : lb_C G p s m args meth c cc nL RX9 ret) (hW : lb_W G s σ H locs) (x1 : Int32) (hR : lb_room rmX9_isPerson R 2) (hls : ls.size = nL) (hrest : (rest.map fun v => v.category).sum ≤ 8) (d : decode cc pc = .ok (.invokevirtual 95, 3)) (hcap : cells ≤ R.cells ∧ slots ≤ R.slots) (kk : ∀ (H1 : Heap) (locs1 : List Loc), lb_W G s σ H1 locs1 → W p l e R s m args below meth c H1 locs1 cells slots Q (F0 m (pc + 3) ls (.int (f_X9_isPerson σ x1) :: rest))) : W p l e R s m args below meth c H locs cells slots Q (F0 m pc ls (.int x1 :: .ref (lb_ad G 53) :: rest)) :=
  lb_goI hW (lb_runV (As := [.int x1]) X hW (m_X9_isPerson l G σ x1 _ rfl) (n := 1) ⟨qw_854, qw_52, qw_857, by decide +kernel⟩ hR qw_856 qw_24 lb_is53 rfl hls hrest d hcap) kk
abbrev rmX9_addsPot : Room := { frames := 2, cells := 0, slots := 0, locals := 43 }
def f_X9_addsPot_50 : Nat → Int32 → lb_Mem → Option (Int32 × lb_Mem)
  | 0, _, _ => none
  | n + 1, x1, σ => if (6 : Int32) ≤ x1 then lb_let (lb_sto σ 54 (0 : Int32).toNatClampNeg ((σ 54 (0 : Int32).toNatClampNeg) + (1 : Int32))) (fun s92 : lb_Mem => some ((1 : Int32), s92)) else lb_chk (lb_ix x1 6) (lb_chk (lb_ix (f_X9_ofT (σ 54 (0 : Int32).toNatClampNeg) x1) 61) (lb_let (lb_sto σ 54 (f_X9_ofT (σ 54 (0 : Int32).toNatClampNeg) x1).toNatClampNeg (σ 61 x1.toNatClampNeg)) (fun s76 : lb_Mem => f_X9_addsPot_50 n (x1 + 1) s76)))
set_option maxRecDepth 20000 in
set_option maxHeartbeats 4000000 in
theorem w_X9_addsPot_50 {p : Program} {l : Launch} {e : Env} {s : State} {m : MethodId} {args : Array Value} {below : List Frame} {meth : Method} {c : Code} {G : lb_G} {qr : (Int32 × lb_Mem)} (X : lb_C G p s m args meth c cX9_addsPot 2 RX9 (some .boolean)) : ∀ (n : Nat) (x1 : Int32) (σ : lb_Mem) (H : Heap) (locs : List Loc) (ls : Array Slot), f_X9_addsPot_50 n x1 σ = some qr → lb_W G s σ H locs → lv_has ls 2 [(0, .ref (lb_ad G 53)), (1, .int x1)] → W p l e rmX9_addsPot s m args below meth c H locs 0 0 (MQ below (lb_QI G qr.1 qr.2) args s 0 0 (lb_A G)) (F0 m 50 ls []) := by
  have hx := X.1
  have hb := X.2.1
  intro n
  induction n with
  | zero => intro x1 σ H locs ls h hW hl; exact absurd h (fun z => by cases z)
  | succ n ih =>
    intro x1 σ H locs ls h hW hl
    have h : (if (6 : Int32) ≤ x1 then lb_let (lb_sto σ 54 (0 : Int32).toNatClampNeg ((σ 54 (0 : Int32).toNatClampNeg) + (1 : Int32))) (fun s92 : lb_Mem => some ((1 : Int32), s92)) else lb_chk (lb_ix x1 6) (lb_chk (lb_ix (f_X9_ofT (σ 54 (0 : Int32).toNatClampNeg) x1) 61) (lb_let (lb_sto σ 54 (f_X9_ofT (σ 54 (0 : Int32).toNatClampNeg) x1).toNatClampNeg (σ 61 x1.toNatClampNeg)) (fun s76 : lb_Mem => f_X9_addsPot_50 n (x1 + 1) s76)))) = some qr := h
    refine lv_iload_n hx hb dX9_addsPot_50 rfl (lv_at hl 1 rfl) ?_
    refine lv_bipush (v := 6) hx hb dX9_addsPot_51 rfl ?_
    refine lv_icmp_ge (tgt := 83) hx hb dX9_addsPot_53 (by decide) (fun c53 => ?_) (fun c53 => ?_)
    · have h := (if_pos c53).symm.trans h
      refine lv_aload_n hx hb dX9_addsPot_83 rfl (lv_at hl 0 rfl) ?_
      refine rg_X9_9 X hW dX9_addsPot_84 ?_
      refine lv_iconst (v := 0) hx hb dX9_addsPot_87 rfl ?_
      refine lv_dup2_11 hx hb dX9_addsPot_88 rfl rfl ?_
      refine lb_ild X hW (show lb_ar 54 = 60 + 1 from rfl) (lb_inC rfl) dX9_addsPot_89 ?_
      refine lv_iconst (v := 1) hx hb dX9_addsPot_90 rfl ?_
      refine lv_iadd hx hb dX9_addsPot_91 ?_
      refine lb_ist X hW (show lb_ar 54 = 60 + 1 from rfl) (lb_inC rfl) dX9_addsPot_92 (fun H locs hW => ?_)
      obtain ⟨s92, e92⟩ : ∃ z, z = lb_sto σ 54 (0 : Int32).toNatClampNeg ((σ 54 (0 : Int32).toNatClampNeg) + (1 : Int32)) := ⟨_, rfl⟩
      rw [← e92] at hW
      have h := lb_letI e92 h
      refine lv_iconst (v := 1) hx hb dX9_addsPot_93 rfl ?_
      obtain rfl := Option.some.inj h
      exact lb_zret X hW (Or.inr rfl) dX9_addsPot_94
    · have h := (if_neg c53).symm.trans h
      refine lv_aload_n hx hb dX9_addsPot_56 rfl (lv_at hl 0 rfl) ?_
      refine rg_X9_9 X hW dX9_addsPot_57 ?_
      refine lv_aload_n hx hb dX9_addsPot_60 rfl (lv_at hl 0 rfl) ?_
      refine rg_X9_9 X hW dX9_addsPot_61 ?_
      refine lv_iconst (v := 0) hx hb dX9_addsPot_64 rfl ?_
      refine lb_ild X hW (show lb_ar 54 = 60 + 1 from rfl) (lb_inC rfl) dX9_addsPot_65 ?_
      refine lv_iload_n hx hb dX9_addsPot_66 rfl (lv_at hl 1 rfl) ?_
      refine rc_X9_45 X hW (σ 54 (0 : Int32).toNatClampNeg) x1 ⟨⟨rfl, rfl⟩, Nat.le_of_ble_eq_true rfl, Nat.le_of_ble_eq_true rfl⟩ hl.1 (Nat.le_of_ble_eq_true rfl) dX9_addsPot_67 ⟨Nat.zero_le _, Nat.zero_le _⟩ (fun H locs hW => ?_)
      refine lv_aload_n hx hb dX9_addsPot_70 rfl (lv_at hl 0 rfl) ?_
      refine rg_X9_31 X hW dX9_addsPot_71 ?_
      refine lv_iload_n hx hb dX9_addsPot_74 rfl (lv_at hl 1 rfl) ?_
      obtain ⟨i75, h⟩ := lb_chk_in h
      refine lb_ild X hW (show lb_ar 61 = 5 + 1 from rfl) i75 dX9_addsPot_75 ?_
      obtain ⟨i76, h⟩ := lb_chk_in h
      refine lb_ist X hW (show lb_ar 54 = 60 + 1 from rfl) i76 dX9_addsPot_76 (fun H locs hW => ?_)
      obtain ⟨s76, e76⟩ : ∃ z, z = lb_sto σ 54 (f_X9_ofT (σ 54 (0 : Int32).toNatClampNeg) x1).toNatClampNeg (σ 61 x1.toNatClampNeg) := ⟨_, rfl⟩
      rw [← e76] at hW
      have h := lb_letI e76 h
      refine lv_iinc (v := (x1 + 1)) (lv' := [(1, .int (x1 + 1)), (0, .ref (lb_ad G 53))]) hx hb dX9_addsPot_77 hl (k := 1) rfl rfl (by decide) rfl (fun ls hl => ?_)
      refine lv_goto (tgt := 50) hx hb dX9_addsPot_80 (by decide) ?_
      exact ih (x1 + 1) s76 _ _ _ h hW (lv_sub hl [1, 0] rfl)
def f_X9_addsPot (σ : lb_Mem) : Option (Int32 × lb_Mem) := if (6 : Int32) ≤ (σ 61 (2 : Int32).toNatClampNeg) then some ((0 : Int32), σ) else if (6 : Int32) < (σ 61 (3 : Int32).toNatClampNeg) then some ((0 : Int32), σ) else if (f_X9_isPerson σ (σ 61 (5 : Int32).toNatClampNeg)) = 0 then some ((0 : Int32), σ) else if (σ 54 (0 : Int32).toNatClampNeg) = (8 : Int32) then some ((0 : Int32), σ) else f_X9_addsPot_50 lb_N (0 : Int32) σ
set_option maxRecDepth 20000 in
set_option maxHeartbeats 4000000 in
theorem m_X9_addsPot (l : Launch) (G : lb_G) (σ : lb_Mem) (qr : (Int32 × lb_Mem)) (h : f_X9_addsPot σ = some qr) : lb_M l yX9_addsPot cX9_addsPot 2 (some .boolean) rmX9_addsPot [.ref (lb_ad G 53)] G σ (lb_QI G qr.1 qr.2) := by
  refine lb_start RX9 (by decide +kernel) rfl (Nat.le_of_ble_eq_true rfl) (fun p e s m below meth c X hW ls hl => ?_)
  have hx := X.1
  have hb := X.2.1
  have hl : lv_has ls 2 [(0, .ref (lb_ad G 53))] := hl
  have h : (if (6 : Int32) ≤ (σ 61 (2 : Int32).toNatClampNeg) then some ((0 : Int32), σ) else if (6 : Int32) < (σ 61 (3 : Int32).toNatClampNeg) then some ((0 : Int32), σ) else if (f_X9_isPerson σ (σ 61 (5 : Int32).toNatClampNeg)) = 0 then some ((0 : Int32), σ) else if (σ 54 (0 : Int32).toNatClampNeg) = (8 : Int32) then some ((0 : Int32), σ) else f_X9_addsPot_50 lb_N (0 : Int32) σ) = some qr := h
  skip
  refine lv_aload_n hx hb dX9_addsPot_0 rfl (lv_at hl 0 rfl) ?_
  refine rg_X9_31 X hW dX9_addsPot_1 ?_
  refine lv_iconst (v := 2) hx hb dX9_addsPot_4 rfl ?_
  refine lb_ild X hW (show lb_ar 61 = 5 + 1 from rfl) (lb_inC rfl) dX9_addsPot_5 ?_
  refine lv_bipush (v := 6) hx hb dX9_addsPot_6 rfl ?_
  refine lv_icmp_ge (tgt := 46) hx hb dX9_addsPot_8 (by decide) (fun c8 => ?_) (fun c8 => ?_)
  · have h := (if_pos c8).symm.trans h
    refine lv_iconst (v := 0) hx hb dX9_addsPot_46 rfl ?_
    obtain rfl := Option.some.inj h
    exact lb_zret X hW (Or.inl rfl) dX9_addsPot_47
  · have h := (if_neg c8).symm.trans h
    refine lv_aload_n hx hb dX9_addsPot_11 rfl (lv_at hl 0 rfl) ?_
    refine rg_X9_31 X hW dX9_addsPot_12 ?_
    refine lv_iconst (v := 3) hx hb dX9_addsPot_15 rfl ?_
    refine lb_ild X hW (show lb_ar 61 = 5 + 1 from rfl) (lb_inC rfl) dX9_addsPot_16 ?_
    refine lv_bipush (v := 6) hx hb dX9_addsPot_17 rfl ?_
    refine lv_icmp_gt (tgt := 46) hx hb dX9_addsPot_19 (by decide) (fun c19 => ?_) (fun c19 => ?_)
    · have h := (if_pos c19).symm.trans h
      refine lv_iconst (v := 0) hx hb dX9_addsPot_46 rfl ?_
      obtain rfl := Option.some.inj h
      exact lb_zret X hW (Or.inl rfl) dX9_addsPot_47
    · have h := (if_neg c19).symm.trans h
      refine lv_aload_n hx hb dX9_addsPot_22 rfl (lv_at hl 0 rfl) ?_
      refine lv_aload_n hx hb dX9_addsPot_23 rfl (lv_at hl 0 rfl) ?_
      refine rg_X9_31 X hW dX9_addsPot_24 ?_
      refine lv_iconst (v := 5) hx hb dX9_addsPot_27 rfl ?_
      refine lb_ild X hW (show lb_ar 61 = 5 + 1 from rfl) (lb_inC rfl) dX9_addsPot_28 ?_
      refine rc_X9_95 X hW (σ 61 (5 : Int32).toNatClampNeg) ⟨⟨rfl, rfl⟩, Nat.le_of_ble_eq_true rfl, Nat.le_of_ble_eq_true rfl⟩ hl.1 (Nat.le_of_ble_eq_true rfl) dX9_addsPot_29 ⟨Nat.zero_le _, Nat.zero_le _⟩ (fun H locs hW => ?_)
      refine lv_if_eq (tgt := 46) hx hb dX9_addsPot_32 (by decide) (fun c32 => ?_) (fun c32 => ?_)
      · have h := (if_pos c32).symm.trans h
        refine lv_iconst (v := 0) hx hb dX9_addsPot_46 rfl ?_
        obtain rfl := Option.some.inj h
        exact lb_zret X hW (Or.inl rfl) dX9_addsPot_47
      · have h := (if_neg c32).symm.trans h
        refine lv_aload_n hx hb dX9_addsPot_35 rfl (lv_at hl 0 rfl) ?_
        refine rg_X9_9 X hW dX9_addsPot_36 ?_
        refine lv_iconst (v := 0) hx hb dX9_addsPot_39 rfl ?_
        refine lb_ild X hW (show lb_ar 54 = 60 + 1 from rfl) (lb_inC rfl) dX9_addsPot_40 ?_
        refine lv_bipush (v := 8) hx hb dX9_addsPot_41 rfl ?_
        refine lv_icmp_ne (tgt := 48) hx hb dX9_addsPot_43 (by decide) (fun c43 => ?_) (fun c43 => ?_)
        · have h := (if_neg c43).symm.trans h
          refine lv_iconst (v := 0) hx hb dX9_addsPot_48 rfl ?_
          refine lv_istore_n (lv' := [(1, .int (0 : Int32)), (0, .ref (lb_ad G 53))]) hx hb dX9_addsPot_49 rfl hl (by decide) rfl (fun ls hl => ?_)
          exact w_X9_addsPot_50 X lb_N (0 : Int32) σ _ _ _ h hW (lv_sub hl [1, 0] rfl)
        · have h := (if_pos c43).symm.trans h
          refine lv_iconst (v := 0) hx hb dX9_addsPot_46 rfl ?_
          obtain rfl := Option.some.inj h
          exact lb_zret X hW (Or.inl rfl) dX9_addsPot_47
theorem rc_X9_99 {p : Program} {l : Launch} {e : Env} {R : Room} {s : State} {m : MethodId} {args : Array Value} {below : List Frame} {meth : Method} {c : Code} {H : Heap} {locs : List Loc} {cells slots : Nat} {Q : State → Prop} {cc : ByteArray} {pc nL : Nat} {ls : Array Slot} {rest : List Value} {G : lb_G} {σ : lb_Mem} {ret : Option FieldType} (X : lb_C G p s m args meth c cc nL RX9 ret) (hW : lb_W G s σ H locs) {qr : (Int32 × lb_Mem)} (h : f_X9_addsPot σ = some qr) (hR : lb_room rmX9_addsPot R 2) (hls : ls.size = nL) (hrest : (rest.map fun v => v.category).sum ≤ 8) (d : decode cc pc = .ok (.invokevirtual 99, 3)) (hcap : cells ≤ R.cells ∧ slots ≤ R.slots) (kk : ∀ (H1 : Heap) (locs1 : List Loc), lb_W G s qr.2 H1 locs1 → W p l e R s m args below meth c H1 locs1 cells slots Q (F0 m (pc + 3) ls (.int qr.1 :: rest))) : W p l e R s m args below meth c H locs cells slots Q (F0 m pc ls (.ref (lb_ad G 53) :: rest)) :=
  lb_goI hW (lb_runV (As := []) X hW (m_X9_addsPot l G σ qr h) (n := 0) ⟨qw_850, qw_52, qw_853, by decide +kernel⟩ hR qw_852 qw_23 lb_is53 rfl hls hrest d hcap) kk
theorem rc_X9_102 {p : Program} {l : Launch} {e : Env} {R : Room} {s : State} {m : MethodId} {args : Array Value} {below : List Frame} {meth : Method} {c : Code} {H : Heap} {locs : List Loc} {cells slots : Nat} {Q : State → Prop} {cc : ByteArray} {pc nL : Nat} {ls : Array Slot} {rest : List Value} {G : lb_G} {σ : lb_Mem} {ret : Option FieldType} (X : lb_C G p s m args meth c cc nL RX9 ret) (hW : lb_W G s σ H locs) (x1 : Int32) (hR : lb_room rmX9_isPot R 2) (hls : ls.size = nL) (hrest : (rest.map fun v => v.category).sum ≤ 8) (d : decode cc pc = .ok (.invokevirtual 102, 3)) (hcap : cells ≤ R.cells ∧ slots ≤ R.slots) (kk : ∀ (H1 : Heap) (locs1 : List Loc), lb_W G s σ H1 locs1 → W p l e R s m args below meth c H1 locs1 cells slots Q (F0 m (pc + 3) ls (.int (f_X9_isPot σ x1) :: rest))) : W p l e R s m args below meth c H locs cells slots Q (F0 m pc ls (.int x1 :: .ref (lb_ad G 53) :: rest)) :=
  lb_goI hW (lb_runV (As := [.int x1]) X hW (m_X9_isPot l G σ x1 _ rfl) (n := 1) ⟨qw_861, qw_52, qw_864, by decide +kernel⟩ hR qw_863 qw_25 lb_is53 rfl hls hrest d hcap) kk
theorem rc_X9_105 {p : Program} {l : Launch} {e : Env} {R : Room} {s : State} {m : MethodId} {args : Array Value} {below : List Frame} {meth : Method} {c : Code} {H : Heap} {locs : List Loc} {cells slots : Nat} {Q : State → Prop} {cc : ByteArray} {pc nL : Nat} {ls : Array Slot} {rest : List Value} {G : lb_G} {σ : lb_Mem} {ret : Option FieldType} (X : lb_C G p s m args meth c cc nL RX9 ret) (hW : lb_W G s σ H locs) {k0 : Nat} (hk0 : lb_ar k0 = 60 + 1) {x1 : Int32} {qr : lb_Mem} (h : f_X9_yearsOn k0 x1 σ = some qr) (hR : lb_room rmX9_yearsOn R 3) (hls : ls.size = nL) (hrest : (rest.map fun v => v.category).sum ≤ 8) (d : decode cc pc = .ok (.invokestatic 105, 3)) (hcap : cells ≤ R.cells ∧ slots ≤ R.slots) (kk : ∀ (H1 : Heap) (locs1 : List Loc), lb_W G s qr H1 locs1 → W p l e R s m args below meth c H1 locs1 cells slots Q (F0 m (pc + 3) ls rest)) : W p l e R s m args below meth c H locs cells slots Q (F0 m pc ls (.int x1 :: .ref (lb_ad G k0) :: rest)) :=
  lb_goV hW (lb_runS (As := [.ref (lb_ad G k0), .int x1]) X hW (m_X9_yearsOn l G σ hk0 x1 qr h) (n := 2) ⟨qw_865, qw_52, qw_867, by decide +kernel⟩ hR qw_866 rfl hls hrest d hcap) kk
abbrev rmX9_isDone : Room := { frames := 5, cells := 0, slots := 0, locals := 111 }
def f_X9_isDone (x1 : Int32) (σ : lb_Mem) : Option (Int32 × lb_Mem) := lb_let ((σ 61 (0 : Int32).toNatClampNeg)) (fun v6 : Int32 => lb_let ((σ 61 (1 : Int32).toNatClampNeg)) (fun v13 : Int32 => if x1 = 102 then if (f_X9_isPot σ v6) = 0 then some ((0 : Int32), σ) else lb_chk (lb_ix (f_X9_ofT v6 (4 : Int32)) 61) (lb_let (lb_sto σ 54 (f_X9_ofT v6 (4 : Int32)).toNatClampNeg v13) (fun s249 : lb_Mem => some ((1 : Int32), s249))) else if x1 = 103 then if (f_X9_isPot σ v6) = 0 then some ((0 : Int32), σ) else if (f_X9_isPerson σ v13) = 0 then some ((0 : Int32), σ) else lb_chk (lb_ix (f_X9_ofT v6 (5 : Int32)) 61) (lb_let (lb_sto σ 54 (f_X9_ofT v6 (5 : Int32)).toNatClampNeg v13) (fun s197 : lb_Mem => some ((1 : Int32), s197))) else if x1 = 106 then (f_X9_addsPot σ).bind (fun q136 => lb_chk (lb_isB q136.1) (some (q136.1, q136.2))) else if x1 = 107 then if (f_X9_isPerson σ v6) = 0 then some ((0 : Int32), σ) else if v13 < (6 : Int32) then lb_chk (lb_ix (f_X9_ofP v6 (0 : Int32)) 61) (lb_let (lb_sto σ 54 (f_X9_ofP v6 (0 : Int32)).toNatClampNeg v13) (fun s226 : lb_Mem => some ((1 : Int32), s226))) else some ((0 : Int32), σ) else if x1 = 108 then if (f_X9_isPot σ v6) = 0 then some ((0 : Int32), σ) else if v13 ≤ (6 : Int32) then lb_chk (lb_ix (f_X9_ofT v6 (3 : Int32)) 61) (lb_let (lb_sto σ 54 (f_X9_ofT v6 (3 : Int32)).toNatClampNeg v13) (fun s166 : lb_Mem => some ((1 : Int32), s166))) else some ((0 : Int32), σ) else if x1 = 112 then if (6 : Int32) ≤ v6 then some ((0 : Int32), σ) else if (σ 54 (1 : Int32).toNatClampNeg) = (5 : Int32) then some ((0 : Int32), σ) else lb_chk (lb_ix (f_X9_ofP (σ 54 (1 : Int32).toNatClampNeg) (0 : Int32)) 61) (lb_let (lb_sto σ 54 (f_X9_ofP (σ 54 (1 : Int32).toNatClampNeg) (0 : Int32)).toNatClampNeg v6) (fun s105 : lb_Mem => lb_chk (lb_ix (f_X9_ofP (s105 54 (1 : Int32).toNatClampNeg) (1 : Int32)) 61) (lb_let (lb_sto s105 54 (f_X9_ofP (s105 54 (1 : Int32).toNatClampNeg) (1 : Int32)).toNatClampNeg (20 : Int32)) (fun s122 : lb_Mem => lb_let (lb_sto s122 54 (1 : Int32).toNatClampNeg ((s122 54 (1 : Int32).toNatClampNeg) + (1 : Int32))) (fun s132 : lb_Mem => some ((1 : Int32), s132)))))) else if (f_X9_isIn v6 (1 : Int32) (60 : Int32)) = 0 then some ((0 : Int32), σ) else if ((σ 54 (2 : Int32).toNatClampNeg) + v6) ≤ (999 : Int32) then (f_X9_yearsOn 54 v6 σ).bind (fun s283 => some ((1 : Int32), s283)) else some ((0 : Int32), σ)))
set_option maxRecDepth 20000 in
set_option maxHeartbeats 4000000 in
theorem m_X9_isDone (l : Launch) (G : lb_G) (σ : lb_Mem) (x1 : Int32) (qr : (Int32 × lb_Mem)) (h : f_X9_isDone x1 σ = some qr) : lb_M l yX9_isDone cX9_isDone 4 (some .boolean) rmX9_isDone [.ref (lb_ad G 53), .int x1] G σ (lb_QI G qr.1 qr.2) := by
  refine lb_start RX9 (by decide +kernel) rfl (Nat.le_of_ble_eq_true rfl) (fun p e s m below meth c X hW ls hl => ?_)
  have hx := X.1
  have hb := X.2.1
  have hl : lv_has ls 4 [(0, .ref (lb_ad G 53)), (1, .int x1)] := hl
  have h : (lb_let ((σ 61 (0 : Int32).toNatClampNeg)) (fun v6 : Int32 => lb_let ((σ 61 (1 : Int32).toNatClampNeg)) (fun v13 : Int32 => if x1 = 102 then if (f_X9_isPot σ v6) = 0 then some ((0 : Int32), σ) else lb_chk (lb_ix (f_X9_ofT v6 (4 : Int32)) 61) (lb_let (lb_sto σ 54 (f_X9_ofT v6 (4 : Int32)).toNatClampNeg v13) (fun s249 : lb_Mem => some ((1 : Int32), s249))) else if x1 = 103 then if (f_X9_isPot σ v6) = 0 then some ((0 : Int32), σ) else if (f_X9_isPerson σ v13) = 0 then some ((0 : Int32), σ) else lb_chk (lb_ix (f_X9_ofT v6 (5 : Int32)) 61) (lb_let (lb_sto σ 54 (f_X9_ofT v6 (5 : Int32)).toNatClampNeg v13) (fun s197 : lb_Mem => some ((1 : Int32), s197))) else if x1 = 106 then (f_X9_addsPot σ).bind (fun q136 => lb_chk (lb_isB q136.1) (some (q136.1, q136.2))) else if x1 = 107 then if (f_X9_isPerson σ v6) = 0 then some ((0 : Int32), σ) else if v13 < (6 : Int32) then lb_chk (lb_ix (f_X9_ofP v6 (0 : Int32)) 61) (lb_let (lb_sto σ 54 (f_X9_ofP v6 (0 : Int32)).toNatClampNeg v13) (fun s226 : lb_Mem => some ((1 : Int32), s226))) else some ((0 : Int32), σ) else if x1 = 108 then if (f_X9_isPot σ v6) = 0 then some ((0 : Int32), σ) else if v13 ≤ (6 : Int32) then lb_chk (lb_ix (f_X9_ofT v6 (3 : Int32)) 61) (lb_let (lb_sto σ 54 (f_X9_ofT v6 (3 : Int32)).toNatClampNeg v13) (fun s166 : lb_Mem => some ((1 : Int32), s166))) else some ((0 : Int32), σ) else if x1 = 112 then if (6 : Int32) ≤ v6 then some ((0 : Int32), σ) else if (σ 54 (1 : Int32).toNatClampNeg) = (5 : Int32) then some ((0 : Int32), σ) else lb_chk (lb_ix (f_X9_ofP (σ 54 (1 : Int32).toNatClampNeg) (0 : Int32)) 61) (lb_let (lb_sto σ 54 (f_X9_ofP (σ 54 (1 : Int32).toNatClampNeg) (0 : Int32)).toNatClampNeg v6) (fun s105 : lb_Mem => lb_chk (lb_ix (f_X9_ofP (s105 54 (1 : Int32).toNatClampNeg) (1 : Int32)) 61) (lb_let (lb_sto s105 54 (f_X9_ofP (s105 54 (1 : Int32).toNatClampNeg) (1 : Int32)).toNatClampNeg (20 : Int32)) (fun s122 : lb_Mem => lb_let (lb_sto s122 54 (1 : Int32).toNatClampNeg ((s122 54 (1 : Int32).toNatClampNeg) + (1 : Int32))) (fun s132 : lb_Mem => some ((1 : Int32), s132)))))) else if (f_X9_isIn v6 (1 : Int32) (60 : Int32)) = 0 then some ((0 : Int32), σ) else if ((σ 54 (2 : Int32).toNatClampNeg) + v6) ≤ (999 : Int32) then (f_X9_yearsOn 54 v6 σ).bind (fun s283 => some ((1 : Int32), s283)) else some ((0 : Int32), σ)))) = some qr := h
  skip
  refine lv_aload_n hx hb dX9_isDone_0 rfl (lv_at hl 0 rfl) ?_
  refine rg_X9_31 X hW dX9_isDone_1 ?_
  refine lv_iconst (v := 0) hx hb dX9_isDone_4 rfl ?_
  refine lb_ild X hW (show lb_ar 61 = 5 + 1 from rfl) (lb_inC rfl) dX9_isDone_5 ?_
  refine lv_topi (fun v6 e6 => ?_)
  have h := lb_letI e6 h
  refine lv_istore_n (lv' := [(2, .int v6), (0, .ref (lb_ad G 53)), (1, .int x1)]) hx hb dX9_isDone_6 rfl hl (by decide) rfl (fun ls hl => ?_)
  refine lv_aload_n hx hb dX9_isDone_7 rfl (lv_at hl 1 rfl) ?_
  refine rg_X9_31 X hW dX9_isDone_8 ?_
  refine lv_iconst (v := 1) hx hb dX9_isDone_11 rfl ?_
  refine lb_ild X hW (show lb_ar 61 = 5 + 1 from rfl) (lb_inC rfl) dX9_isDone_12 ?_
  refine lv_topi (fun v13 e13 => ?_)
  have h := lb_letI e13 h
  refine lv_istore_n (lv' := [(3, .int v13), (2, .int v6), (0, .ref (lb_ad G 53)), (1, .int x1)]) hx hb dX9_isDone_13 rfl hl (by decide) rfl (fun ls hl => ?_)
  refine lv_iload_n hx hb dX9_isDone_14 rfl (lv_at hl 3 rfl) ?_
  by_cases c15_102 : x1 = 102
  · have h := (if_pos c15_102).symm.trans h
    refine lv_tableIn (tgt := 229) hx hb dX9_isDone_15 (by rw [c15_102]; decide) (by rw [c15_102]; decide) (off := 214) (by rw [c15_102]; rfl) (by decide) ?_
    refine lv_aload_n hx hb dX9_isDone_229 rfl (lv_at hl 2 rfl) ?_
    refine lv_iload_n hx hb dX9_isDone_230 rfl (lv_at hl 1 rfl) ?_
    refine rc_X9_102 X hW v6 ⟨⟨rfl, rfl⟩, Nat.le_of_ble_eq_true rfl, Nat.le_of_ble_eq_true rfl⟩ hl.1 (Nat.le_of_ble_eq_true rfl) dX9_isDone_231 ⟨Nat.zero_le _, Nat.zero_le _⟩ (fun H locs hW => ?_)
    refine lv_if_ne (tgt := 239) hx hb dX9_isDone_234 (by decide) (fun c234 => ?_) (fun c234 => ?_)
    · have h := (if_neg c234).symm.trans h
      refine lv_aload_n hx hb dX9_isDone_239 rfl (lv_at hl 2 rfl) ?_
      refine rg_X9_9 X hW dX9_isDone_240 ?_
      refine lv_iload_n hx hb dX9_isDone_243 rfl (lv_at hl 1 rfl) ?_
      refine lv_iconst (v := 4) hx hb dX9_isDone_244 rfl ?_
      refine rc_X9_45 X hW v6 (4 : Int32) ⟨⟨rfl, rfl⟩, Nat.le_of_ble_eq_true rfl, Nat.le_of_ble_eq_true rfl⟩ hl.1 (Nat.le_of_ble_eq_true rfl) dX9_isDone_245 ⟨Nat.zero_le _, Nat.zero_le _⟩ (fun H locs hW => ?_)
      refine lv_iload_n hx hb dX9_isDone_248 rfl (lv_at hl 0 rfl) ?_
      obtain ⟨i249, h⟩ := lb_chk_in h
      refine lb_ist X hW (show lb_ar 54 = 60 + 1 from rfl) i249 dX9_isDone_249 (fun H locs hW => ?_)
      obtain ⟨s249, e249⟩ : ∃ z, z = lb_sto σ 54 (f_X9_ofT v6 (4 : Int32)).toNatClampNeg v13 := ⟨_, rfl⟩
      rw [← e249] at hW
      have h := lb_letI e249 h
      refine lv_iconst (v := 1) hx hb dX9_isDone_250 rfl ?_
      obtain rfl := Option.some.inj h
      exact lb_zret X hW (Or.inr rfl) dX9_isDone_251
    · have h := (if_pos c234).symm.trans h
      refine lv_iconst (v := 0) hx hb dX9_isDone_237 rfl ?_
      obtain rfl := Option.some.inj h
      exact lb_zret X hW (Or.inl rfl) dX9_isDone_238
  have h := (if_neg c15_102).symm.trans h
  by_cases c15_103 : x1 = 103
  · have h := (if_pos c15_103).symm.trans h
    refine lv_tableIn (tgt := 169) hx hb dX9_isDone_15 (by rw [c15_103]; decide) (by rw [c15_103]; decide) (off := 154) (by rw [c15_103]; rfl) (by decide) ?_
    refine lv_aload_n hx hb dX9_isDone_169 rfl (lv_at hl 2 rfl) ?_
    refine lv_iload_n hx hb dX9_isDone_170 rfl (lv_at hl 1 rfl) ?_
    refine rc_X9_102 X hW v6 ⟨⟨rfl, rfl⟩, Nat.le_of_ble_eq_true rfl, Nat.le_of_ble_eq_true rfl⟩ hl.1 (Nat.le_of_ble_eq_true rfl) dX9_isDone_171 ⟨Nat.zero_le _, Nat.zero_le _⟩ (fun H locs hW => ?_)
    refine lv_if_eq (tgt := 185) hx hb dX9_isDone_174 (by decide) (fun c174 => ?_) (fun c174 => ?_)
    · have h := (if_pos c174).symm.trans h
      refine lv_iconst (v := 0) hx hb dX9_isDone_185 rfl ?_
      obtain rfl := Option.some.inj h
      exact lb_zret X hW (Or.inl rfl) dX9_isDone_186
    · have h := (if_neg c174).symm.trans h
      refine lv_aload_n hx hb dX9_isDone_177 rfl (lv_at hl 2 rfl) ?_
      refine lv_iload_n hx hb dX9_isDone_178 rfl (lv_at hl 0 rfl) ?_
      refine rc_X9_95 X hW v13 ⟨⟨rfl, rfl⟩, Nat.le_of_ble_eq_true rfl, Nat.le_of_ble_eq_true rfl⟩ hl.1 (Nat.le_of_ble_eq_true rfl) dX9_isDone_179 ⟨Nat.zero_le _, Nat.zero_le _⟩ (fun H locs hW => ?_)
      refine lv_if_ne (tgt := 187) hx hb dX9_isDone_182 (by decide) (fun c182 => ?_) (fun c182 => ?_)
      · have h := (if_neg c182).symm.trans h
        refine lv_aload_n hx hb dX9_isDone_187 rfl (lv_at hl 2 rfl) ?_
        refine rg_X9_9 X hW dX9_isDone_188 ?_
        refine lv_iload_n hx hb dX9_isDone_191 rfl (lv_at hl 1 rfl) ?_
        refine lv_iconst (v := 5) hx hb dX9_isDone_192 rfl ?_
        refine rc_X9_45 X hW v6 (5 : Int32) ⟨⟨rfl, rfl⟩, Nat.le_of_ble_eq_true rfl, Nat.le_of_ble_eq_true rfl⟩ hl.1 (Nat.le_of_ble_eq_true rfl) dX9_isDone_193 ⟨Nat.zero_le _, Nat.zero_le _⟩ (fun H locs hW => ?_)
        refine lv_iload_n hx hb dX9_isDone_196 rfl (lv_at hl 0 rfl) ?_
        obtain ⟨i197, h⟩ := lb_chk_in h
        refine lb_ist X hW (show lb_ar 54 = 60 + 1 from rfl) i197 dX9_isDone_197 (fun H locs hW => ?_)
        obtain ⟨s197, e197⟩ : ∃ z, z = lb_sto σ 54 (f_X9_ofT v6 (5 : Int32)).toNatClampNeg v13 := ⟨_, rfl⟩
        rw [← e197] at hW
        have h := lb_letI e197 h
        refine lv_iconst (v := 1) hx hb dX9_isDone_198 rfl ?_
        obtain rfl := Option.some.inj h
        exact lb_zret X hW (Or.inr rfl) dX9_isDone_199
      · have h := (if_pos c182).symm.trans h
        refine lv_iconst (v := 0) hx hb dX9_isDone_185 rfl ?_
        obtain rfl := Option.some.inj h
        exact lb_zret X hW (Or.inl rfl) dX9_isDone_186
  have h := (if_neg c15_103).symm.trans h
  by_cases c15_106 : x1 = 106
  · have h := (if_pos c15_106).symm.trans h
    refine lv_tableIn (tgt := 135) hx hb dX9_isDone_15 (by rw [c15_106]; decide) (by rw [c15_106]; decide) (off := 120) (by rw [c15_106]; rfl) (by decide) ?_
    refine lv_aload_n hx hb dX9_isDone_135 rfl (lv_at hl 2 rfl) ?_
    obtain ⟨q136, e136, h⟩ := lb_bind h
    refine rc_X9_99 X hW e136 ⟨⟨rfl, rfl⟩, Nat.le_of_ble_eq_true rfl, Nat.le_of_ble_eq_true rfl⟩ hl.1 (Nat.le_of_ble_eq_true rfl) dX9_isDone_136 ⟨Nat.zero_le _, Nat.zero_le _⟩ (fun H locs hW => ?_)
    obtain ⟨z139, h⟩ := lb_chk_b h
    obtain rfl := Option.some.inj h
    exact lb_zret X hW z139 dX9_isDone_139
  have h := (if_neg c15_106).symm.trans h
  by_cases c15_107 : x1 = 107
  · have h := (if_pos c15_107).symm.trans h
    refine lv_tableIn (tgt := 200) hx hb dX9_isDone_15 (by rw [c15_107]; decide) (by rw [c15_107]; decide) (off := 185) (by rw [c15_107]; rfl) (by decide) ?_
    refine lv_aload_n hx hb dX9_isDone_200 rfl (lv_at hl 2 rfl) ?_
    refine lv_iload_n hx hb dX9_isDone_201 rfl (lv_at hl 1 rfl) ?_
    refine rc_X9_95 X hW v6 ⟨⟨rfl, rfl⟩, Nat.le_of_ble_eq_true rfl, Nat.le_of_ble_eq_true rfl⟩ hl.1 (Nat.le_of_ble_eq_true rfl) dX9_isDone_202 ⟨Nat.zero_le _, Nat.zero_le _⟩ (fun H locs hW => ?_)
    refine lv_if_eq (tgt := 214) hx hb dX9_isDone_205 (by decide) (fun c205 => ?_) (fun c205 => ?_)
    · have h := (if_pos c205).symm.trans h
      refine lv_iconst (v := 0) hx hb dX9_isDone_214 rfl ?_
      obtain rfl := Option.some.inj h
      exact lb_zret X hW (Or.inl rfl) dX9_isDone_215
    · have h := (if_neg c205).symm.trans h
      refine lv_iload_n hx hb dX9_isDone_208 rfl (lv_at hl 0 rfl) ?_
      refine lv_bipush (v := 6) hx hb dX9_isDone_209 rfl ?_
      refine lv_icmp_lt (tgt := 216) hx hb dX9_isDone_211 (by decide) (fun c211 => ?_) (fun c211 => ?_)
      · have h := (if_pos c211).symm.trans h
        refine lv_aload_n hx hb dX9_isDone_216 rfl (lv_at hl 2 rfl) ?_
        refine rg_X9_9 X hW dX9_isDone_217 ?_
        refine lv_iload_n hx hb dX9_isDone_220 rfl (lv_at hl 1 rfl) ?_
        refine lv_iconst (v := 0) hx hb dX9_isDone_221 rfl ?_
        refine rc_X9_52 X hW v6 (0 : Int32) ⟨⟨rfl, rfl⟩, Nat.le_of_ble_eq_true rfl, Nat.le_of_ble_eq_true rfl⟩ hl.1 (Nat.le_of_ble_eq_true rfl) dX9_isDone_222 ⟨Nat.zero_le _, Nat.zero_le _⟩ (fun H locs hW => ?_)
        refine lv_iload_n hx hb dX9_isDone_225 rfl (lv_at hl 0 rfl) ?_
        obtain ⟨i226, h⟩ := lb_chk_in h
        refine lb_ist X hW (show lb_ar 54 = 60 + 1 from rfl) i226 dX9_isDone_226 (fun H locs hW => ?_)
        obtain ⟨s226, e226⟩ : ∃ z, z = lb_sto σ 54 (f_X9_ofP v6 (0 : Int32)).toNatClampNeg v13 := ⟨_, rfl⟩
        rw [← e226] at hW
        have h := lb_letI e226 h
        refine lv_iconst (v := 1) hx hb dX9_isDone_227 rfl ?_
        obtain rfl := Option.some.inj h
        exact lb_zret X hW (Or.inr rfl) dX9_isDone_228
      · have h := (if_neg c211).symm.trans h
        refine lv_iconst (v := 0) hx hb dX9_isDone_214 rfl ?_
        obtain rfl := Option.some.inj h
        exact lb_zret X hW (Or.inl rfl) dX9_isDone_215
  have h := (if_neg c15_107).symm.trans h
  by_cases c15_108 : x1 = 108
  · have h := (if_pos c15_108).symm.trans h
    refine lv_tableIn (tgt := 140) hx hb dX9_isDone_15 (by rw [c15_108]; decide) (by rw [c15_108]; decide) (off := 125) (by rw [c15_108]; rfl) (by decide) ?_
    refine lv_aload_n hx hb dX9_isDone_140 rfl (lv_at hl 2 rfl) ?_
    refine lv_iload_n hx hb dX9_isDone_141 rfl (lv_at hl 1 rfl) ?_
    refine rc_X9_102 X hW v6 ⟨⟨rfl, rfl⟩, Nat.le_of_ble_eq_true rfl, Nat.le_of_ble_eq_true rfl⟩ hl.1 (Nat.le_of_ble_eq_true rfl) dX9_isDone_142 ⟨Nat.zero_le _, Nat.zero_le _⟩ (fun H locs hW => ?_)
    refine lv_if_eq (tgt := 154) hx hb dX9_isDone_145 (by decide) (fun c145 => ?_) (fun c145 => ?_)
    · have h := (if_pos c145).symm.trans h
      refine lv_iconst (v := 0) hx hb dX9_isDone_154 rfl ?_
      obtain rfl := Option.some.inj h
      exact lb_zret X hW (Or.inl rfl) dX9_isDone_155
    · have h := (if_neg c145).symm.trans h
      refine lv_iload_n hx hb dX9_isDone_148 rfl (lv_at hl 0 rfl) ?_
      refine lv_bipush (v := 6) hx hb dX9_isDone_149 rfl ?_
      refine lv_icmp_le (tgt := 156) hx hb dX9_isDone_151 (by decide) (fun c151 => ?_) (fun c151 => ?_)
      · have h := (if_pos c151).symm.trans h
        refine lv_aload_n hx hb dX9_isDone_156 rfl (lv_at hl 2 rfl) ?_
        refine rg_X9_9 X hW dX9_isDone_157 ?_
        refine lv_iload_n hx hb dX9_isDone_160 rfl (lv_at hl 1 rfl) ?_
        refine lv_iconst (v := 3) hx hb dX9_isDone_161 rfl ?_
        refine rc_X9_45 X hW v6 (3 : Int32) ⟨⟨rfl, rfl⟩, Nat.le_of_ble_eq_true rfl, Nat.le_of_ble_eq_true rfl⟩ hl.1 (Nat.le_of_ble_eq_true rfl) dX9_isDone_162 ⟨Nat.zero_le _, Nat.zero_le _⟩ (fun H locs hW => ?_)
        refine lv_iload_n hx hb dX9_isDone_165 rfl (lv_at hl 0 rfl) ?_
        obtain ⟨i166, h⟩ := lb_chk_in h
        refine lb_ist X hW (show lb_ar 54 = 60 + 1 from rfl) i166 dX9_isDone_166 (fun H locs hW => ?_)
        obtain ⟨s166, e166⟩ : ∃ z, z = lb_sto σ 54 (f_X9_ofT v6 (3 : Int32)).toNatClampNeg v13 := ⟨_, rfl⟩
        rw [← e166] at hW
        have h := lb_letI e166 h
        refine lv_iconst (v := 1) hx hb dX9_isDone_167 rfl ?_
        obtain rfl := Option.some.inj h
        exact lb_zret X hW (Or.inr rfl) dX9_isDone_168
      · have h := (if_neg c151).symm.trans h
        refine lv_iconst (v := 0) hx hb dX9_isDone_154 rfl ?_
        obtain rfl := Option.some.inj h
        exact lb_zret X hW (Or.inl rfl) dX9_isDone_155
  have h := (if_neg c15_108).symm.trans h
  by_cases c15_112 : x1 = 112
  · have h := (if_pos c15_112).symm.trans h
    refine lv_tableIn (tgt := 72) hx hb dX9_isDone_15 (by rw [c15_112]; decide) (by rw [c15_112]; decide) (off := 57) (by rw [c15_112]; rfl) (by decide) ?_
    refine lv_iload_n hx hb dX9_isDone_72 rfl (lv_at hl 1 rfl) ?_
    refine lv_bipush (v := 6) hx hb dX9_isDone_73 rfl ?_
    refine lv_icmp_ge (tgt := 88) hx hb dX9_isDone_75 (by decide) (fun c75 => ?_) (fun c75 => ?_)
    · have h := (if_pos c75).symm.trans h
      refine lv_iconst (v := 0) hx hb dX9_isDone_88 rfl ?_
      obtain rfl := Option.some.inj h
      exact lb_zret X hW (Or.inl rfl) dX9_isDone_89
    · have h := (if_neg c75).symm.trans h
      refine lv_aload_n hx hb dX9_isDone_78 rfl (lv_at hl 2 rfl) ?_
      refine rg_X9_9 X hW dX9_isDone_79 ?_
      refine lv_iconst (v := 1) hx hb dX9_isDone_82 rfl ?_
      refine lb_ild X hW (show lb_ar 54 = 60 + 1 from rfl) (lb_inC rfl) dX9_isDone_83 ?_
      refine lv_iconst (v := 5) hx hb dX9_isDone_84 rfl ?_
      refine lv_icmp_ne (tgt := 90) hx hb dX9_isDone_85 (by decide) (fun c85 => ?_) (fun c85 => ?_)
      · have h := (if_neg c85).symm.trans h
        refine lv_aload_n hx hb dX9_isDone_90 rfl (lv_at hl 2 rfl) ?_
        refine rg_X9_9 X hW dX9_isDone_91 ?_
        refine lv_aload_n hx hb dX9_isDone_94 rfl (lv_at hl 2 rfl) ?_
        refine rg_X9_9 X hW dX9_isDone_95 ?_
        refine lv_iconst (v := 1) hx hb dX9_isDone_98 rfl ?_
        refine lb_ild X hW (show lb_ar 54 = 60 + 1 from rfl) (lb_inC rfl) dX9_isDone_99 ?_
        refine lv_iconst (v := 0) hx hb dX9_isDone_100 rfl ?_
        refine rc_X9_52 X hW (σ 54 (1 : Int32).toNatClampNeg) (0 : Int32) ⟨⟨rfl, rfl⟩, Nat.le_of_ble_eq_true rfl, Nat.le_of_ble_eq_true rfl⟩ hl.1 (Nat.le_of_ble_eq_true rfl) dX9_isDone_101 ⟨Nat.zero_le _, Nat.zero_le _⟩ (fun H locs hW => ?_)
        refine lv_iload_n hx hb dX9_isDone_104 rfl (lv_at hl 1 rfl) ?_
        obtain ⟨i105, h⟩ := lb_chk_in h
        refine lb_ist X hW (show lb_ar 54 = 60 + 1 from rfl) i105 dX9_isDone_105 (fun H locs hW => ?_)
        obtain ⟨s105, e105⟩ : ∃ z, z = lb_sto σ 54 (f_X9_ofP (σ 54 (1 : Int32).toNatClampNeg) (0 : Int32)).toNatClampNeg v6 := ⟨_, rfl⟩
        rw [← e105] at hW
        have h := lb_letI e105 h
        refine lv_aload_n hx hb dX9_isDone_106 rfl (lv_at hl 2 rfl) ?_
        refine rg_X9_9 X hW dX9_isDone_107 ?_
        refine lv_aload_n hx hb dX9_isDone_110 rfl (lv_at hl 2 rfl) ?_
        refine rg_X9_9 X hW dX9_isDone_111 ?_
        refine lv_iconst (v := 1) hx hb dX9_isDone_114 rfl ?_
        refine lb_ild X hW (show lb_ar 54 = 60 + 1 from rfl) (lb_inC rfl) dX9_isDone_115 ?_
        refine lv_iconst (v := 1) hx hb dX9_isDone_116 rfl ?_
        refine rc_X9_52 X hW (s105 54 (1 : Int32).toNatClampNeg) (1 : Int32) ⟨⟨rfl, rfl⟩, Nat.le_of_ble_eq_true rfl, Nat.le_of_ble_eq_true rfl⟩ hl.1 (Nat.le_of_ble_eq_true rfl) dX9_isDone_117 ⟨Nat.zero_le _, Nat.zero_le _⟩ (fun H locs hW => ?_)
        refine lv_bipush (v := 20) hx hb dX9_isDone_120 rfl ?_
        obtain ⟨i122, h⟩ := lb_chk_in h
        refine lb_ist X hW (show lb_ar 54 = 60 + 1 from rfl) i122 dX9_isDone_122 (fun H locs hW => ?_)
        obtain ⟨s122, e122⟩ : ∃ z, z = lb_sto s105 54 (f_X9_ofP (s105 54 (1 : Int32).toNatClampNeg) (1 : Int32)).toNatClampNeg (20 : Int32) := ⟨_, rfl⟩
        rw [← e122] at hW
        have h := lb_letI e122 h
        refine lv_aload_n hx hb dX9_isDone_123 rfl (lv_at hl 2 rfl) ?_
        refine rg_X9_9 X hW dX9_isDone_124 ?_
        refine lv_iconst (v := 1) hx hb dX9_isDone_127 rfl ?_
        refine lv_dup2_11 hx hb dX9_isDone_128 rfl rfl ?_
        refine lb_ild X hW (show lb_ar 54 = 60 + 1 from rfl) (lb_inC rfl) dX9_isDone_129 ?_
        refine lv_iconst (v := 1) hx hb dX9_isDone_130 rfl ?_
        refine lv_iadd hx hb dX9_isDone_131 ?_
        refine lb_ist X hW (show lb_ar 54 = 60 + 1 from rfl) (lb_inC rfl) dX9_isDone_132 (fun H locs hW => ?_)
        obtain ⟨s132, e132⟩ : ∃ z, z = lb_sto s122 54 (1 : Int32).toNatClampNeg ((s122 54 (1 : Int32).toNatClampNeg) + (1 : Int32)) := ⟨_, rfl⟩
        rw [← e132] at hW
        have h := lb_letI e132 h
        refine lv_iconst (v := 1) hx hb dX9_isDone_133 rfl ?_
        obtain rfl := Option.some.inj h
        exact lb_zret X hW (Or.inr rfl) dX9_isDone_134
      · have h := (if_pos c85).symm.trans h
        refine lv_iconst (v := 0) hx hb dX9_isDone_88 rfl ?_
        obtain rfl := Option.some.inj h
        exact lb_zret X hW (Or.inl rfl) dX9_isDone_89
  have h := (if_neg c15_112).symm.trans h
  refine lb_tswD (tgt := 252) (lb_kn_cons c15_102 (lb_kn_cons c15_103 (lb_kn_cons c15_106 (lb_kn_cons c15_107 (lb_kn_cons c15_108 (lb_kn_cons c15_112 lb_kn_nil)))))) hx hb dX9_isDone_15 (by decide) (by decide) (by decide) (by decide) (by decide) ?_
  refine lv_iload_n hx hb dX9_isDone_252 rfl (lv_at hl 1 rfl) ?_
  refine lv_iconst (v := 1) hx hb dX9_isDone_253 rfl ?_
  refine lv_bipush (v := 60) hx hb dX9_isDone_254 rfl ?_
  refine rc_X9_41 X hW v6 (1 : Int32) (60 : Int32) ⟨⟨rfl, rfl⟩, Nat.le_of_ble_eq_true rfl, Nat.le_of_ble_eq_true rfl⟩ hl.1 (Nat.le_of_ble_eq_true rfl) dX9_isDone_256 ⟨Nat.zero_le _, Nat.zero_le _⟩ (fun H locs hW => ?_)
  refine lv_if_eq (tgt := 276) hx hb dX9_isDone_259 (by decide) (fun c259 => ?_) (fun c259 => ?_)
  · have h := (if_pos c259).symm.trans h
    refine lv_iconst (v := 0) hx hb dX9_isDone_276 rfl ?_
    obtain rfl := Option.some.inj h
    exact lb_zret X hW (Or.inl rfl) dX9_isDone_277
  · have h := (if_neg c259).symm.trans h
    refine lv_aload_n hx hb dX9_isDone_262 rfl (lv_at hl 2 rfl) ?_
    refine rg_X9_9 X hW dX9_isDone_263 ?_
    refine lv_iconst (v := 2) hx hb dX9_isDone_266 rfl ?_
    refine lb_ild X hW (show lb_ar 54 = 60 + 1 from rfl) (lb_inC rfl) dX9_isDone_267 ?_
    refine lv_iload_n hx hb dX9_isDone_268 rfl (lv_at hl 1 rfl) ?_
    refine lv_iadd hx hb dX9_isDone_269 ?_
    refine lv_sipush (v := 999) hx hb dX9_isDone_270 rfl ?_
    refine lv_icmp_le (tgt := 278) hx hb dX9_isDone_273 (by decide) (fun c273 => ?_) (fun c273 => ?_)
    · have h := (if_pos c273).symm.trans h
      refine lv_aload_n hx hb dX9_isDone_278 rfl (lv_at hl 2 rfl) ?_
      refine rg_X9_9 X hW dX9_isDone_279 ?_
      refine lv_iload_n hx hb dX9_isDone_282 rfl (lv_at hl 1 rfl) ?_
      obtain ⟨s283, e283, h⟩ := lb_bind h
      refine rc_X9_105 X hW (show lb_ar 54 = 60 + 1 from rfl) e283 ⟨⟨rfl, rfl⟩, Nat.le_of_ble_eq_true rfl, Nat.le_of_ble_eq_true rfl⟩ hl.1 (Nat.le_of_ble_eq_true rfl) dX9_isDone_283 ⟨Nat.zero_le _, Nat.zero_le _⟩ (fun H locs hW => ?_)
      refine lv_iconst (v := 1) hx hb dX9_isDone_286 rfl ?_
      obtain rfl := Option.some.inj h
      exact lb_zret X hW (Or.inr rfl) dX9_isDone_287
    · have h := (if_neg c273).symm.trans h
      refine lv_iconst (v := 0) hx hb dX9_isDone_276 rfl ?_
      obtain rfl := Option.some.inj h
      exact lb_zret X hW (Or.inl rfl) dX9_isDone_277
