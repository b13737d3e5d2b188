def R_law : String := "LabelsByAnotherHandLaw"
def lw_P (b : Addr) (xs : List Int32) (args : Array Value) (s : State) : Prop := args = #[.ref b] ∧ s.IntsAt b xs ∧ xs.length ≤ 3072 ∧ (Jvm.Cond.and given_1 narrow_1).before args s = true
def lw_Q (_ : Array Value) (s : State) (o : Outcome) (t : State) : Prop := o = .returned (some (.int 1)) ∧ Framed s o t [] 62 739
def lw_Z (below : List Frame) (a : Array Value) (s : State) : State → Prop := fun t => ∃ o, t.status = .running ∧ Ended t below o ∧ lw_Q a s o t
/-- the law's own end, with 1 on the stack, nothing written that was there before, its room as the claim has it -/
theorem lw_ret {p : Program} {l : Launch} {e : Env} {s : State} {m : MethodId} {below : List Frame} {meth : Method} {c : Code} {b : Nat} (hx : p.tables.exec = Jvm.exec) (hb : c.code = code) (hr : meth.sig.returnType = ret) (hlocks : meth.locks = false) {pc : Nat} {H : Heap} {ls : Array Slot} (hdg : decode code pc = .ok (.ireturn, 1)) : W p l e room_1 s m #[Value.ref b] below meth c H [] 62 739 (lw_Z below #[Value.ref b] s) (F0 m pc ls [.int 1]) := by
  intro T hT X
  obtain ⟨fs, hret, hrun, hended, hW, hframe⟩ := X.leave (v := some (.int 1)) (hlocks := hlocks) (fun h => by rw [hr] at h; cases h)
  have hmeth' : T.vm.method? m = some meth := X.method'
  refine ⟨T.setFrames fs, ?_, .returned (some (.int 1)), hrun, hended, rfl, ⟨_, rfl⟩, hW, hframe⟩
  jvm_step X.here [X.here.top, hx, hb, hdg, hmeth', hr, ret, narrow_b1]
  (try refine ⟨rfl, ?_⟩); (try refine ⟨rfl, ?_⟩)
  first | (intro acts; rw [hret _ acts rfl rfl rfl]) | rw [hret _ _ rfl rfl rfl]
  exact Steps.refl _
/-- what holds at the law's entry: the machine, the code, the tables' words (any of lw_tbl by 'hts w (by decide +kernel)'), the script of L ints xs at the cell b, what the Statement gives of the start (any of its parts by flat_of_before) -/
def lw_At (p : Program) (s : State) (m : MethodId) (meth : Method) (c : Code) (b L : Nat) (xs : Nat → Int32) : Prop :=
  p.tables.exec = Jvm.exec ∧ c.code = code ∧ meth.sig.returnType = ret ∧ c.maxLocals = 4 ∧ s.vm.findClass R_law = some m.cls ∧ (∀ w ∈ lw_tbl, w.before #[Value.ref b] s = true) ∧ va_X b L xs s s.heap ∧ b < s.heap.size ∧ meth.locks = false ∧ (Jvm.Cond.and given_1 narrow_1).before #[Value.ref b] s = true
theorem lb_Ls {L : Nat} (hL : L ≤ 3072) : (Int32.ofNat L - 6).toInt = (L : Int) - 6 := by
  have e : Int32.ofNat L = nI L := rfl
  rw [e, show (6 : Int32) = nI 6 from rfl]
  exact pk_sub_toInt (by omega) (by omega)
theorem lb_gt {k L : Nat} (h : L ≤ k + 5) (hk : k ≤ L) (hL : L ≤ 3072) : (Int32.ofNat L - 6) < nI k := by
  rw [Int32.lt_iff_toInt_lt, lb_Ls hL, nI_toInt (by omega)]
  omega
theorem lb_ngt {k L : Nat} (h : k + 5 < L) (hL : L ≤ 3072) : ¬ (Int32.ofNat L - 6) < nI k := by
  rw [Int32.lt_iff_toInt_lt, lb_Ls hL, nI_toInt (by omega)]
  omega
theorem lb_cmp0 (r : Int64) : lg_cmp r r = 0 := by simp [lg_cmp]
theorem lb_scr {k L : Nat} (h : k + 5 < L) (hL : L ≤ 3072) : vp_in (nI k) L ∧ vp_in (nI k + 1) L ∧ vp_in (nI k + 2) L ∧ vp_in (nI k + 3) L ∧ vp_in (nI k + 4) L ∧ vp_in (nI k + 5) L := by
  refine ⟨vp_in_nI (by omega) (by omega), ?_, ?_, ?_, ?_, ?_⟩
  · rw [show (1 : Int32) = nI 1 from rfl, nI_add]; exact vp_in_nI (by omega) (by omega)
  · rw [show (2 : Int32) = nI 2 from rfl, nI_add]; exact vp_in_nI (by omega) (by omega)
  · rw [show (3 : Int32) = nI 3 from rfl, nI_add]; exact vp_in_nI (by omega) (by omega)
  · rw [show (4 : Int32) = nI 4 from rfl, nI_add]; exact vp_in_nI (by omega) (by omega)
  · rw [show (5 : Int32) = nI 5 from rfl, nI_add]; exact vp_in_nI (by omega) (by omega)
theorem rc_L_13 {p : Program} {l : Launch} {e : Env} {R : Room} {s : State} {m : MethodId} {args : Array Value} {below : List Frame} {meth : Method} {c : Code} {H : Heap} {locs : List Loc} {cells slots : Nat} {Q : State → Prop} {cc : ByteArray} {pc nL : Nat} {ls : Array Slot} {rest : List Value} {G : lb_G} {σ : lb_Mem} {ret : Option FieldType} (X : lb_C G p s m args meth c cc nL RL ret) (hW : lb_W G s σ H locs) {x1 : Int32} {qr : (Int32 × lb_Mem)} (h : f_X8_letter x1 σ = some qr) (hR : lb_room rmX8_letter R 3) (hls : ls.size = nL) (hrest : (rest.map fun v => v.category).sum ≤ 8) (d : decode cc pc = .ok (.invokevirtual 13, 3)) (hcap : cells ≤ R.cells ∧ slots ≤ R.slots) (kk : ∀ (H1 : Heap) (locs1 : List Loc), lb_W G s qr.2 H1 locs1 → W p l e R s m args below meth c H1 locs1 cells slots Q (F0 m (pc + 3) ls (.int qr.1 :: rest))) : W p l e R s m args below meth c H locs cells slots Q (F0 m pc ls (.int x1 :: .ref (lb_ad G 0) :: rest)) :=
  lb_goI hW (lb_runV (As := [.int x1]) X hW (m_X8_letter l G σ x1 qr h) (n := 1) ⟨qw_206, qw_43, qw_209, by decide +kernel⟩ hR qw_207 qw_208 lb_is0 rfl hls hrest d hcap) kk
theorem rc_L_17 {p : Program} {l : Launch} {e : Env} {R : Room} {s : State} {m : MethodId} {args : Array Value} {below : List Frame} {meth : Method} {c : Code} {H : Heap} {locs : List Loc} {cells slots : Nat} {Q : State → Prop} {cc : ByteArray} {pc nL : Nat} {ls : Array Slot} {rest : List Value} {G : lb_G} {σ : lb_Mem} {ret : Option FieldType} (X : lb_C G p s m args meth c cc nL RL ret) (hW : lb_W G s σ H locs) {x1 : Int32} {qr : (Int32 × lb_Mem)} (h : f_X9_letter x1 σ = some qr) (hR : lb_room rmX9_letter R 2) (hls : ls.size = nL) (hrest : (rest.map fun v => v.category).sum ≤ 8) (d : decode cc pc = .ok (.invokevirtual 17, 3)) (hcap : cells ≤ R.cells ∧ slots ≤ R.slots) (kk : ∀ (H1 : Heap) (locs1 : List Loc), lb_W G s qr.2 H1 locs1 → W p l e R s m args below meth c H1 locs1 cells slots Q (F0 m (pc + 3) ls (.int qr.1 :: rest))) : W p l e R s m args below meth c H locs cells slots Q (F0 m pc ls (.int x1 :: .ref (lb_ad G 53) :: rest)) :=
  lb_goI hW (lb_runV (As := [.int x1]) X hW (m_X9_letter l G σ x1 qr h) (n := 1) ⟨qw_806, qw_52, qw_809, by decide +kernel⟩ hR qw_807 qw_808 lb_is53 rfl hls hrest d hcap) kk
def lb_st_letter (Rel : lb_Mem → Prop) : Prop := ∀ (σ : lb_Mem) (x1 : Int32), Rel σ → ∃ (r : Int32) (σ1 σ2 : lb_Mem), f_X8_letter x1 σ = some (r, σ1) ∧ f_X9_letter x1 σ1 = some (r, σ2) ∧ Rel σ2
set_option maxRecDepth 20000 in
theorem lc_208 {p : Program} {l : Launch} {e : Env} {s : State} {m : MethodId} {below : List Frame} {meth : Method} {c : Code} {G : lb_G} {b L k : Nat} {xs : Nat → Int32} (X : lb_C G p s m #[Value.ref b] meth c cL_law 4 RL (some .boolean)) (hX : va_X b L xs s s.heap) (hbl : b < s.heap.size) (hbA : ¬ lb_A G b) (hk : k + 5 < L) (hL : L ≤ 3072) {Rel : lb_Mem → Prop} (hst : lb_st_letter Rel) (hnx : ∀ (σ : lb_Mem) (H : Heap) (locs : List Loc) (ls : Array Slot), Rel σ → lb_W G s σ H locs → lv_has ls 4 [(0, .ref b), (1, .ref (lb_ad G 0)), (2, .ref (lb_ad G 53)), (3, .int (nI k))] → W p l e room_1 s m #[Value.ref b] below meth c H locs 62 739 (lw_Z below #[Value.ref b] s) (F0 m 1340 ls [])) : ∀ (σ : lb_Mem) (H : Heap) (locs : List Loc) (ls : Array Slot), Rel σ → lb_W G s σ H locs → lv_has ls 4 [(0, .ref b), (1, .ref (lb_ad G 0)), (2, .ref (lb_ad G 53)), (3, .int (nI k))] → W p l e room_1 s m #[Value.ref b] below meth c H locs 62 739 (lw_Z below #[Value.ref b] s) (F0 m 208 ls []) := by
  have hx := X.1
  have hb := X.2.1
  obtain ⟨i0, i1, i2, i3, i4, i5⟩ := lb_scr hk hL
  intro σ H locs ls hr hW hl
  obtain ⟨r, σ1, σ2, h1, h2, hr2⟩ := hst σ (xs (nI k + 1).toNatClampNeg) hr
  refine lv_aload_n hx hb dL_law_208 rfl (lv_at hl 1 rfl) ?_
  refine lv_aload_n hx hb dL_law_209 rfl (lv_at hl 0 rfl) ?_
  refine lv_iload_n hx hb dL_law_210 rfl (lv_at hl 3 rfl) ?_
  refine lv_iconst (v := 1) hx hb dL_law_211 rfl ?_
  refine lv_iadd hx hb dL_law_212 ?_
  refine va_sld hx hb hX hbl hbA hW.2 i1 dL_law_213 ?_
  refine rc_L_13 X hW h1 ⟨⟨rfl, rfl⟩, Nat.le_of_ble_eq_true rfl, Nat.le_of_ble_eq_true rfl⟩ hl.1 (Nat.le_of_ble_eq_true rfl) dL_law_214 ⟨Nat.le_of_ble_eq_true rfl, Nat.le_of_ble_eq_true rfl⟩ (fun H locs hW => ?_)
  refine lv_aload_n hx hb dL_law_217 rfl (lv_at hl 2 rfl) ?_
  refine lv_aload_n hx hb dL_law_218 rfl (lv_at hl 0 rfl) ?_
  refine lv_iload_n hx hb dL_law_219 rfl (lv_at hl 3 rfl) ?_
  refine lv_iconst (v := 1) hx hb dL_law_220 rfl ?_
  refine lv_iadd hx hb dL_law_221 ?_
  refine va_sld hx hb hX hbl hbA hW.2 i1 dL_law_222 ?_
  refine rc_L_17 X hW h2 ⟨⟨rfl, rfl⟩, Nat.le_of_ble_eq_true rfl, Nat.le_of_ble_eq_true rfl⟩ hl.1 (Nat.le_of_ble_eq_true rfl) dL_law_223 ⟨Nat.le_of_ble_eq_true rfl, Nat.le_of_ble_eq_true rfl⟩ (fun H locs hW => ?_)
  refine lv_icmp_eq (tgt := 1340) hx hb dL_law_226 (by decide) (fun _ => ?_) (fun z => absurd rfl z)
  exact hnx σ2 _ _ _ hr2 hW (lv_sub hl [0, 1, 2, 3] rfl)
theorem rc_L_18 {p : Program} {l : Launch} {e : Env} {R : Room} {s : State} {m : MethodId} {args : Array Value} {below : List Frame} {meth : Method} {c : Code} {H : Heap} {locs : List Loc} {cells slots : Nat} {Q : State → Prop} {cc : ByteArray} {pc nL : Nat} {ls : Array Slot} {rest : List Value} {G : lb_G} {σ : lb_Mem} {ret : Option FieldType} (X : lb_C G p s m args meth c cc nL RL ret) (hW : lb_W G s σ H locs) {qr : (Int32 × lb_Mem)} (h : f_X8_village σ = some qr) (hR : lb_room rmX8_village R 4) (hls : ls.size = nL) (hrest : (rest.map fun v => v.category).sum ≤ 8) (d : decode cc pc = .ok (.invokevirtual 18, 3)) (hcap : cells ≤ R.cells ∧ slots ≤ R.slots) (kk : ∀ (H1 : Heap) (locs1 : List Loc), lb_W G s qr.2 H1 locs1 → W p l e R s m args below meth c H1 locs1 cells slots Q (F0 m (pc + 3) ls (.int qr.1 :: rest))) : W p l e R s m args below meth c H locs cells slots Q (F0 m pc ls (.ref (lb_ad G 0) :: rest)) :=
  lb_goI hW (lb_runV (As := []) X hW (m_X8_village l G σ qr h) (n := 0) ⟨qw_224, qw_43, qw_227, by decide +kernel⟩ hR qw_225 qw_226 lb_is0 rfl hls hrest d hcap) kk
theorem rc_L_22 {p : Program} {l : Launch} {e : Env} {R : Room} {s : State} {m : MethodId} {args : Array Value} {below : List Frame} {meth : Method} {c : Code} {H : Heap} {locs : List Loc} {cells slots : Nat} {Q : State → Prop} {cc : ByteArray} {pc nL : Nat} {ls : Array Slot} {rest : List Value} {G : lb_G} {σ : lb_Mem} {ret : Option FieldType} (X : lb_C G p s m args meth c cc nL RL ret) (hW : lb_W G s σ H locs) {qr : (Int32 × lb_Mem)} (h : f_X9_village σ = some qr) (hR : lb_room rmX9_village R 6) (hls : ls.size = nL) (hrest : (rest.map fun v => v.category).sum ≤ 8) (d : decode cc pc = .ok (.invokevirtual 22, 3)) (hcap : cells ≤ R.cells ∧ slots ≤ R.slots) (kk : ∀ (H1 : Heap) (locs1 : List Loc), lb_W G s qr.2 H1 locs1 → W p l e R s m args below meth c H1 locs1 cells slots Q (F0 m (pc + 3) ls (.int qr.1 :: rest))) : W p l e R s m args below meth c H locs cells slots Q (F0 m pc ls (.ref (lb_ad G 53) :: rest)) :=
  lb_goI hW (lb_runV (As := []) X hW (m_X9_village l G σ qr h) (n := 0) ⟨qw_814, qw_52, qw_817, by decide +kernel⟩ hR qw_815 qw_816 lb_is53 rfl hls hrest d hcap) kk
def lb_st_village (Rel : lb_Mem → Prop) : Prop := ∀ (σ : lb_Mem), Rel σ → ∃ (r : Int32) (σ1 σ2 : lb_Mem), f_X8_village σ = some (r, σ1) ∧ f_X9_village σ1 = some (r, σ2) ∧ Rel σ2
set_option maxRecDepth 20000 in
theorem lc_231 {p : Program} {l : Launch} {e : Env} {s : State} {m : MethodId} {below : List Frame} {meth : Method} {c : Code} {G : lb_G} {b L k : Nat} {xs : Nat → Int32} (X : lb_C G p s m #[Value.ref b] meth c cL_law 4 RL (some .boolean)) (hX : va_X b L xs s s.heap) (hbl : b < s.heap.size) (hbA : ¬ lb_A G b) (hk : k + 5 < L) (hL : L ≤ 3072) {Rel : lb_Mem → Prop} (hst : lb_st_village Rel) (hnx : ∀ (σ : lb_Mem) (H : Heap) (locs : List Loc) (ls : Array Slot), Rel σ → lb_W G s σ H locs → lv_has ls 4 [(0, .ref b), (1, .ref (lb_ad G 0)), (2, .ref (lb_ad G 53)), (3, .int (nI k))] → W p l e room_1 s m #[Value.ref b] below meth c H locs 62 739 (lw_Z below #[Value.ref b] s) (F0 m 1340 ls [])) : ∀ (σ : lb_Mem) (H : Heap) (locs : List Loc) (ls : Array Slot), Rel σ → lb_W G s σ H locs → lv_has ls 4 [(0, .ref b), (1, .ref (lb_ad G 0)), (2, .ref (lb_ad G 53)), (3, .int (nI k))] → W p l e room_1 s m #[Value.ref b] below meth c H locs 62 739 (lw_Z below #[Value.ref b] s) (F0 m 231 ls []) := by
  have hx := X.1
  have hb := X.2.1
  obtain ⟨i0, i1, i2, i3, i4, i5⟩ := lb_scr hk hL
  intro σ H locs ls hr hW hl
  obtain ⟨r, σ1, σ2, h1, h2, hr2⟩ := hst σ hr
  refine lv_aload_n hx hb dL_law_231 rfl (lv_at hl 1 rfl) ?_
  refine rc_L_18 X hW h1 ⟨⟨rfl, rfl⟩, Nat.le_of_ble_eq_true rfl, Nat.le_of_ble_eq_true rfl⟩ hl.1 (Nat.le_of_ble_eq_true rfl) dL_law_232 ⟨Nat.le_of_ble_eq_true rfl, Nat.le_of_ble_eq_true rfl⟩ (fun H locs hW => ?_)
  refine lv_aload_n hx hb dL_law_235 rfl (lv_at hl 2 rfl) ?_
  refine rc_L_22 X hW h2 ⟨⟨rfl, rfl⟩, Nat.le_of_ble_eq_true rfl, Nat.le_of_ble_eq_true rfl⟩ hl.1 (Nat.le_of_ble_eq_true rfl) dL_law_236 ⟨Nat.le_of_ble_eq_true rfl, Nat.le_of_ble_eq_true rfl⟩ (fun H locs hW => ?_)
  refine lv_icmp_eq (tgt := 1340) hx hb dL_law_239 (by decide) (fun _ => ?_) (fun z => absurd rfl z)
  exact hnx σ2 _ _ _ hr2 hW (lv_sub hl [0, 1, 2, 3] rfl)
theorem rc_L_23 {p : Program} {l : Launch} {e : Env} {R : Room} {s : State} {m : MethodId} {args : Array Value} {below : List Frame} {meth : Method} {c : Code} {H : Heap} {locs : List Loc} {cells slots : Nat} {Q : State → Prop} {cc : ByteArray} {pc nL : Nat} {ls : Array Slot} {rest : List Value} {G : lb_G} {σ : lb_Mem} {ret : Option FieldType} (X : lb_C G p s m args meth c cc nL RL ret) (hW : lb_W G s σ H locs) {x1 : Int32} {x2 : Int32} {qr : (Int32 × lb_Mem)} (h : f_X8_pot x1 x2 σ = some qr) (hR : lb_room rmX8_pot R 4) (hls : ls.size = nL) (hrest : (rest.map fun v => v.category).sum ≤ 8) (d : decode cc pc = .ok (.invokevirtual 23, 3)) (hcap : cells ≤ R.cells ∧ slots ≤ R.slots) (kk : ∀ (H1 : Heap) (locs1 : List Loc), lb_W G s qr.2 H1 locs1 → W p l e R s m args below meth c H1 locs1 cells slots Q (F0 m (pc + 3) ls (.int qr.1 :: rest))) : W p l e R s m args below meth c H locs cells slots Q (F0 m pc ls (.int x2 :: .int x1 :: .ref (lb_ad G 0) :: rest)) :=
  lb_goI hW (lb_runV (As := [.int x1, .int x2]) X hW (m_X8_pot l G σ x1 x2 qr h) (n := 2) ⟨qw_456, qw_43, qw_459, by decide +kernel⟩ hR qw_457 qw_458 lb_is0 rfl hls hrest d hcap) kk
theorem rc_L_27 {p : Program} {l : Launch} {e : Env} {R : Room} {s : State} {m : MethodId} {args : Array Value} {below : List Frame} {meth : Method} {c : Code} {H : Heap} {locs : List Loc} {cells slots : Nat} {Q : State → Prop} {cc : ByteArray} {pc nL : Nat} {ls : Array Slot} {rest : List Value} {G : lb_G} {σ : lb_Mem} {ret : Option FieldType} (X : lb_C G p s m args meth c cc nL RL ret) (hW : lb_W G s σ H locs) {x1 : Int32} {x2 : Int32} {qr : (Int32 × lb_Mem)} (h : f_X9_pot x1 x2 σ = some qr) (hR : lb_room rmX9_pot R 3) (hls : ls.size = nL) (hrest : (rest.map fun v => v.category).sum ≤ 8) (d : decode cc pc = .ok (.invokevirtual 27, 3)) (hcap : cells ≤ R.cells ∧ slots ≤ R.slots) (kk : ∀ (H1 : Heap) (locs1 : List Loc), lb_W G s qr.2 H1 locs1 → W p l e R s m args below meth c H1 locs1 cells slots Q (F0 m (pc + 3) ls (.int qr.1 :: rest))) : W p l e R s m args below meth c H locs cells slots Q (F0 m pc ls (.int x2 :: .int x1 :: .ref (lb_ad G 53) :: rest)) :=
  lb_goI hW (lb_runV (As := [.int x1, .int x2]) X hW (m_X9_pot l G σ x1 x2 qr h) (n := 2) ⟨qw_886, qw_52, qw_889, by decide +kernel⟩ hR qw_887 qw_888 lb_is53 rfl hls hrest d hcap) kk
def lb_st_pot (Rel : lb_Mem → Prop) : Prop := ∀ (σ : lb_Mem) (x1 : Int32) (x2 : Int32), Rel σ → ∃ (r : Int32) (σ1 σ2 : lb_Mem), f_X8_pot x1 x2 σ = some (r, σ1) ∧ f_X9_pot x1 x2 σ1 = some (r, σ2) ∧ Rel σ2
set_option maxRecDepth 20000 in
theorem lc_244 {p : Program} {l : Launch} {e : Env} {s : State} {m : MethodId} {below : List Frame} {meth : Method} {c : Code} {G : lb_G} {b L k : Nat} {xs : Nat → Int32} (X : lb_C G p s m #[Value.ref b] meth c cL_law 4 RL (some .boolean)) (hX : va_X b L xs s s.heap) (hbl : b < s.heap.size) (hbA : ¬ lb_A G b) (hk : k + 5 < L) (hL : L ≤ 3072) {Rel : lb_Mem → Prop} (hst : lb_st_pot Rel) (hnx : ∀ (σ : lb_Mem) (H : Heap) (locs : List Loc) (ls : Array Slot), Rel σ → lb_W G s σ H locs → lv_has ls 4 [(0, .ref b), (1, .ref (lb_ad G 0)), (2, .ref (lb_ad G 53)), (3, .int (nI k))] → W p l e room_1 s m #[Value.ref b] below meth c H locs 62 739 (lw_Z below #[Value.ref b] s) (F0 m 1340 ls [])) : ∀ (σ : lb_Mem) (H : Heap) (locs : List Loc) (ls : Array Slot), Rel σ → lb_W G s σ H locs → lv_has ls 4 [(0, .ref b), (1, .ref (lb_ad G 0)), (2, .ref (lb_ad G 53)), (3, .int (nI k))] → W p l e room_1 s m #[Value.ref b] below meth c H locs 62 739 (lw_Z below #[Value.ref b] s) (F0 m 244 ls []) := by
  have hx := X.1
  have hb := X.2.1
  obtain ⟨i0, i1, i2, i3, i4, i5⟩ := lb_scr hk hL
  intro σ H locs ls hr hW hl
  obtain ⟨r, σ1, σ2, h1, h2, hr2⟩ := hst σ (xs (nI k + 1).toNatClampNeg) (xs (nI k + 2).toNatClampNeg) hr
  refine lv_aload_n hx hb dL_law_244 rfl (lv_at hl 1 rfl) ?_
  refine lv_aload_n hx hb dL_law_245 rfl (lv_at hl 0 rfl) ?_
  refine lv_iload_n hx hb dL_law_246 rfl (lv_at hl 3 rfl) ?_
  refine lv_iconst (v := 1) hx hb dL_law_247 rfl ?_
  refine lv_iadd hx hb dL_law_248 ?_
  refine va_sld hx hb hX hbl hbA hW.2 i1 dL_law_249 ?_
  refine lv_aload_n hx hb dL_law_250 rfl (lv_at hl 0 rfl) ?_
  refine lv_iload_n hx hb dL_law_251 rfl (lv_at hl 3 rfl) ?_
  refine lv_iconst (v := 2) hx hb dL_law_252 rfl ?_
  refine lv_iadd hx hb dL_law_253 ?_
  refine va_sld hx hb hX hbl hbA hW.2 i2 dL_law_254 ?_
  refine rc_L_23 X hW h1 ⟨⟨rfl, rfl⟩, Nat.le_of_ble_eq_true rfl, Nat.le_of_ble_eq_true rfl⟩ hl.1 (Nat.le_of_ble_eq_true rfl) dL_law_255 ⟨Nat.le_of_ble_eq_true rfl, Nat.le_of_ble_eq_true rfl⟩ (fun H locs hW => ?_)
  refine lv_aload_n hx hb dL_law_258 rfl (lv_at hl 2 rfl) ?_
  refine lv_aload_n hx hb dL_law_259 rfl (lv_at hl 0 rfl) ?_
  refine lv_iload_n hx hb dL_law_260 rfl (lv_at hl 3 rfl) ?_
  refine lv_iconst (v := 1) hx hb dL_law_261 rfl ?_
  refine lv_iadd hx hb dL_law_262 ?_
  refine va_sld hx hb hX hbl hbA hW.2 i1 dL_law_263 ?_
  refine lv_aload_n hx hb dL_law_264 rfl (lv_at hl 0 rfl) ?_
  refine lv_iload_n hx hb dL_law_265 rfl (lv_at hl 3 rfl) ?_
  refine lv_iconst (v := 2) hx hb dL_law_266 rfl ?_
  refine lv_iadd hx hb dL_law_267 ?_
  refine va_sld hx hb hX hbl hbA hW.2 i2 dL_law_268 ?_
  refine rc_L_27 X hW h2 ⟨⟨rfl, rfl⟩, Nat.le_of_ble_eq_true rfl, Nat.le_of_ble_eq_true rfl⟩ hl.1 (Nat.le_of_ble_eq_true rfl) dL_law_269 ⟨Nat.le_of_ble_eq_true rfl, Nat.le_of_ble_eq_true rfl⟩ (fun H locs hW => ?_)
  refine lv_icmp_eq (tgt := 1340) hx hb dL_law_272 (by decide) (fun _ => ?_) (fun z => absurd rfl z)
  exact hnx σ2 _ _ _ hr2 hW (lv_sub hl [0, 1, 2, 3] rfl)
theorem rc_L_28 {p : Program} {l : Launch} {e : Env} {R : Room} {s : State} {m : MethodId} {args : Array Value} {below : List Frame} {meth : Method} {c : Code} {H : Heap} {locs : List Loc} {cells slots : Nat} {Q : State → Prop} {cc : ByteArray} {pc nL : Nat} {ls : Array Slot} {rest : List Value} {G : lb_G} {σ : lb_Mem} {ret : Option FieldType} (X : lb_C G p s m args meth c cc nL RL ret) (hW : lb_W G s σ H locs) {x1 : Int32} {x2 : Int32} {qr : (Int32 × lb_Mem)} (h : f_X8_person x1 x2 σ = some qr) (hR : lb_room rmX8_person R 4) (hls : ls.size = nL) (hrest : (rest.map fun v => v.category).sum ≤ 8) (d : decode cc pc = .ok (.invokevirtual 28, 3)) (hcap : cells ≤ R.cells ∧ slots ≤ R.slots) (kk : ∀ (H1 : Heap) (locs1 : List Loc), lb_W G s qr.2 H1 locs1 → W p l e R s m args below meth c H1 locs1 cells slots Q (F0 m (pc + 3) ls (.int qr.1 :: rest))) : W p l e R s m args below meth c H locs cells slots Q (F0 m pc ls (.int x2 :: .int x1 :: .ref (lb_ad G 0) :: rest)) :=
  lb_goI hW (lb_runV (As := [.int x1, .int x2]) X hW (m_X8_person l G σ x1 x2 qr h) (n := 2) ⟨qw_468, qw_43, qw_471, by decide +kernel⟩ hR qw_469 qw_470 lb_is0 rfl hls hrest d hcap) kk
theorem rc_L_31 {p : Program} {l : Launch} {e : Env} {R : Room} {s : State} {m : MethodId} {args : Array Value} {below : List Frame} {meth : Method} {c : Code} {H : Heap} {locs : List Loc} {cells slots : Nat} {Q : State → Prop} {cc : ByteArray} {pc nL : Nat} {ls : Array Slot} {rest : List Value} {G : lb_G} {σ : lb_Mem} {ret : Option FieldType} (X : lb_C G p s m args meth c cc nL RL ret) (hW : lb_W G s σ H locs) {x1 : Int32} {x2 : Int32} {qr : (Int32 × lb_Mem)} (h : f_X9_person x1 x2 σ = some qr) (hR : lb_room rmX9_person R 3) (hls : ls.size = nL) (hrest : (rest.map fun v => v.category).sum ≤ 8) (d : decode cc pc = .ok (.invokevirtual 31, 3)) (hcap : cells ≤ R.cells ∧ slots ≤ R.slots) (kk : ∀ (H1 : Heap) (locs1 : List Loc), lb_W G s qr.2 H1 locs1 → W p l e R s m args below meth c H1 locs1 cells slots Q (F0 m (pc + 3) ls (.int qr.1 :: rest))) : W p l e R s m args below meth c H locs cells slots Q (F0 m pc ls (.int x2 :: .int x1 :: .ref (lb_ad G 53) :: rest)) :=
  lb_goI hW (lb_runV (As := [.int x1, .int x2]) X hW (m_X9_person l G σ x1 x2 qr h) (n := 2) ⟨qw_890, qw_52, qw_893, by decide +kernel⟩ hR qw_891 qw_892 lb_is53 rfl hls hrest d hcap) kk
def lb_st_person (Rel : lb_Mem → Prop) : Prop := ∀ (σ : lb_Mem) (x1 : Int32) (x2 : Int32), Rel σ → ∃ (r : Int32) (σ1 σ2 : lb_Mem), f_X8_person x1 x2 σ = some (r, σ1) ∧ f_X9_person x1 x2 σ1 = some (r, σ2) ∧ Rel σ2
set_option maxRecDepth 20000 in
theorem lc_277 {p : Program} {l : Launch} {e : Env} {s : State} {m : MethodId} {below : List Frame} {meth : Method} {c : Code} {G : lb_G} {b L k : Nat} {xs : Nat → Int32} (X : lb_C G p s m #[Value.ref b] meth c cL_law 4 RL (some .boolean)) (hX : va_X b L xs s s.heap) (hbl : b < s.heap.size) (hbA : ¬ lb_A G b) (hk : k + 5 < L) (hL : L ≤ 3072) {Rel : lb_Mem → Prop} (hst : lb_st_person Rel) (hnx : ∀ (σ : lb_Mem) (H : Heap) (locs : List Loc) (ls : Array Slot), Rel σ → lb_W G s σ H locs → lv_has ls 4 [(0, .ref b), (1, .ref (lb_ad G 0)), (2, .ref (lb_ad G 53)), (3, .int (nI k))] → W p l e room_1 s m #[Value.ref b] below meth c H locs 62 739 (lw_Z below #[Value.ref b] s) (F0 m 1340 ls [])) : ∀ (σ : lb_Mem) (H : Heap) (locs : List Loc) (ls : Array Slot), Rel σ → lb_W G s σ H locs → lv_has ls 4 [(0, .ref b), (1, .ref (lb_ad G 0)), (2, .ref (lb_ad G 53)), (3, .int (nI k))] → W p l e room_1 s m #[Value.ref b] below meth c H locs 62 739 (lw_Z below #[Value.ref b] s) (F0 m 277 ls []) := by
  have hx := X.1
  have hb := X.2.1
  obtain ⟨i0, i1, i2, i3, i4, i5⟩ := lb_scr hk hL
  intro σ H locs ls hr hW hl
  obtain ⟨r, σ1, σ2, h1, h2, hr2⟩ := hst σ (xs (nI k + 1).toNatClampNeg) (xs (nI k + 2).toNatClampNeg) hr
  refine lv_aload_n hx hb dL_law_277 rfl (lv_at hl 1 rfl) ?_
  refine lv_aload_n hx hb dL_law_278 rfl (lv_at hl 0 rfl) ?_
  refine lv_iload_n hx hb dL_law_279 rfl (lv_at hl 3 rfl) ?_
  refine lv_iconst (v := 1) hx hb dL_law_280 rfl ?_
  refine lv_iadd hx hb dL_law_281 ?_
  refine va_sld hx hb hX hbl hbA hW.2 i1 dL_law_282 ?_
  refine lv_aload_n hx hb dL_law_283 rfl (lv_at hl 0 rfl) ?_
  refine lv_iload_n hx hb dL_law_284 rfl (lv_at hl 3 rfl) ?_
  refine lv_iconst (v := 2) hx hb dL_law_285 rfl ?_
  refine lv_iadd hx hb dL_law_286 ?_
  refine va_sld hx hb hX hbl hbA hW.2 i2 dL_law_287 ?_
  refine rc_L_28 X hW h1 ⟨⟨rfl, rfl⟩, Nat.le_of_ble_eq_true rfl, Nat.le_of_ble_eq_true rfl⟩ hl.1 (Nat.le_of_ble_eq_true rfl) dL_law_288 ⟨Nat.le_of_ble_eq_true rfl, Nat.le_of_ble_eq_true rfl⟩ (fun H locs hW => ?_)
  refine lv_aload_n hx hb dL_law_291 rfl (lv_at hl 2 rfl) ?_
  refine lv_aload_n hx hb dL_law_292 rfl (lv_at hl 0 rfl) ?_
  refine lv_iload_n hx hb dL_law_293 rfl (lv_at hl 3 rfl) ?_
  refine lv_iconst (v := 1) hx hb dL_law_294 rfl ?_
  refine lv_iadd hx hb dL_law_295 ?_
  refine va_sld hx hb hX hbl hbA hW.2 i1 dL_law_296 ?_
  refine lv_aload_n hx hb dL_law_297 rfl (lv_at hl 0 rfl) ?_
  refine lv_iload_n hx hb dL_law_298 rfl (lv_at hl 3 rfl) ?_
  refine lv_iconst (v := 2) hx hb dL_law_299 rfl ?_
  refine lv_iadd hx hb dL_law_300 ?_
  refine va_sld hx hb hX hbl hbA hW.2 i2 dL_law_301 ?_
  refine rc_L_31 X hW h2 ⟨⟨rfl, rfl⟩, Nat.le_of_ble_eq_true rfl, Nat.le_of_ble_eq_true rfl⟩ hl.1 (Nat.le_of_ble_eq_true rfl) dL_law_302 ⟨Nat.le_of_ble_eq_true rfl, Nat.le_of_ble_eq_true rfl⟩ (fun H locs hW => ?_)
  refine lv_icmp_eq (tgt := 1340) hx hb dL_law_305 (by decide) (fun _ => ?_) (fun z => absurd rfl z)
  exact hnx σ2 _ _ _ hr2 hW (lv_sub hl [0, 1, 2, 3] rfl)
theorem rc_L_32 {p : Program} {l : Launch} {e : Env} {R : Room} {s : State} {m : MethodId} {args : Array Value} {below : List Frame} {meth : Method} {c : Code} {H : Heap} {locs : List Loc} {cells slots : Nat} {Q : State → Prop} {cc : ByteArray} {pc nL : Nat} {ls : Array Slot} {rest : List Value} {G : lb_G} {σ : lb_Mem} {ret : Option FieldType} (X : lb_C G p s m args meth c cc nL RL ret) (hW : lb_W G s σ H locs) {x1 : Int32} {x2 : Int32} {qr : (Int32 × lb_Mem)} (h : f_X8_gains x1 x2 σ = some qr) (hR : lb_room rmX8_gains R 4) (hls : ls.size = nL) (hrest : (rest.map fun v => v.category).sum ≤ 8) (d : decode cc pc = .ok (.invokevirtual 32, 3)) (hcap : cells ≤ R.cells ∧ slots ≤ R.slots) (kk : ∀ (H1 : Heap) (locs1 : List Loc), lb_W G s qr.2 H1 locs1 → W p l e R s m args below meth c H1 locs1 cells slots Q (F0 m (pc + 3) ls (.int qr.1 :: rest))) : W p l e R s m args below meth c H locs cells slots Q (F0 m pc ls (.int x2 :: .int x1 :: .ref (lb_ad G 0) :: rest)) :=
  lb_goI hW (lb_runV (As := [.int x1, .int x2]) X hW (m_X8_gains l G σ x1 x2 qr h) (n := 2) ⟨qw_482, qw_43, qw_485, by decide +kernel⟩ hR qw_483 qw_484 lb_is0 rfl hls hrest d hcap) kk
theorem rc_L_35 {p : Program} {l : Launch} {e : Env} {R : Room} {s : State} {m : MethodId} {args : Array Value} {below : List Frame} {meth : Method} {c : Code} {H : Heap} {locs : List Loc} {cells slots : Nat} {Q : State → Prop} {cc : ByteArray} {pc nL : Nat} {ls : Array Slot} {rest : List Value} {G : lb_G} {σ : lb_Mem} {ret : Option FieldType} (X : lb_C G p s m args meth c cc nL RL ret) (hW : lb_W G s σ H locs) {x1 : Int32} {x2 : Int32} {qr : (Int32 × lb_Mem)} (h : f_X9_gains x1 x2 σ = some qr) (hR : lb_room rmX9_gains R 3) (hls : ls.size = nL) (hrest : (rest.map fun v => v.category).sum ≤ 8) (d : decode cc pc = .ok (.invokevirtual 35, 3)) (hcap : cells ≤ R.cells ∧ slots ≤ R.slots) (kk : ∀ (H1 : Heap) (locs1 : List Loc), lb_W G s qr.2 H1 locs1 → W p l e R s m args below meth c H1 locs1 cells slots Q (F0 m (pc + 3) ls (.int qr.1 :: rest))) : W p l e R s m args below meth c H locs cells slots Q (F0 m pc ls (.int x2 :: .int x1 :: .ref (lb_ad G 53) :: rest)) :=
  lb_goI hW (lb_runV (As := [.int x1, .int x2]) X hW (m_X9_gains l G σ x1 x2 qr h) (n := 2) ⟨qw_898, qw_52, qw_901, by decide +kernel⟩ hR qw_899 qw_900 lb_is53 rfl hls hrest d hcap) kk
def lb_st_gains (Rel : lb_Mem → Prop) : Prop := ∀ (σ : lb_Mem) (x1 : Int32) (x2 : Int32), Rel σ → ∃ (r : Int32) (σ1 σ2 : lb_Mem), f_X8_gains x1 x2 σ = some (r, σ1) ∧ f_X9_gains x1 x2 σ1 = some (r, σ2) ∧ Rel σ2
set_option maxRecDepth 20000 in
theorem lc_310 {p : Program} {l : Launch} {e : Env} {s : State} {m : MethodId} {below : List Frame} {meth : Method} {c : Code} {G : lb_G} {b L k : Nat} {xs : Nat → Int32} (X : lb_C G p s m #[Value.ref b] meth c cL_law 4 RL (some .boolean)) (hX : va_X b L xs s s.heap) (hbl : b < s.heap.size) (hbA : ¬ lb_A G b) (hk : k + 5 < L) (hL : L ≤ 3072) {Rel : lb_Mem → Prop} (hst : lb_st_gains Rel) (hnx : ∀ (σ : lb_Mem) (H : Heap) (locs : List Loc) (ls : Array Slot), Rel σ → lb_W G s σ H locs → lv_has ls 4 [(0, .ref b), (1, .ref (lb_ad G 0)), (2, .ref (lb_ad G 53)), (3, .int (nI k))] → W p l e room_1 s m #[Value.ref b] below meth c H locs 62 739 (lw_Z below #[Value.ref b] s) (F0 m 1340 ls [])) : ∀ (σ : lb_Mem) (H : Heap) (locs : List Loc) (ls : Array Slot), Rel σ → lb_W G s σ H locs → lv_has ls 4 [(0, .ref b), (1, .ref (lb_ad G 0)), (2, .ref (lb_ad G 53)), (3, .int (nI k))] → W p l e room_1 s m #[Value.ref b] below meth c H locs 62 739 (lw_Z below #[Value.ref b] s) (F0 m 310 ls []) := by
  have hx := X.1
  have hb := X.2.1
  obtain ⟨i0, i1, i2, i3, i4, i5⟩ := lb_scr hk hL
  intro σ H locs ls hr hW hl
  obtain ⟨r, σ1, σ2, h1, h2, hr2⟩ := hst σ (xs (nI k + 1).toNatClampNeg) (xs (nI k + 2).toNatClampNeg) hr
  refine lv_aload_n hx hb dL_law_310 rfl (lv_at hl 1 rfl) ?_
  refine lv_aload_n hx hb dL_law_311 rfl (lv_at hl 0 rfl) ?_
  refine lv_iload_n hx hb dL_law_312 rfl (lv_at hl 3 rfl) ?_
  refine lv_iconst (v := 1) hx hb dL_law_313 rfl ?_
  refine lv_iadd hx hb dL_law_314 ?_
  refine va_sld hx hb hX hbl hbA hW.2 i1 dL_law_315 ?_
  refine lv_aload_n hx hb dL_law_316 rfl (lv_at hl 0 rfl) ?_
  refine lv_iload_n hx hb dL_law_317 rfl (lv_at hl 3 rfl) ?_
  refine lv_iconst (v := 2) hx hb dL_law_318 rfl ?_
  refine lv_iadd hx hb dL_law_319 ?_
  refine va_sld hx hb hX hbl hbA hW.2 i2 dL_law_320 ?_
  refine rc_L_32 X hW h1 ⟨⟨rfl, rfl⟩, Nat.le_of_ble_eq_true rfl, Nat.le_of_ble_eq_true rfl⟩ hl.1 (Nat.le_of_ble_eq_true rfl) dL_law_321 ⟨Nat.le_of_ble_eq_true rfl, Nat.le_of_ble_eq_true rfl⟩ (fun H locs hW => ?_)
  refine lv_aload_n hx hb dL_law_324 rfl (lv_at hl 2 rfl) ?_
  refine lv_aload_n hx hb dL_law_325 rfl (lv_at hl 0 rfl) ?_
  refine lv_iload_n hx hb dL_law_326 rfl (lv_at hl 3 rfl) ?_
  refine lv_iconst (v := 1) hx hb dL_law_327 rfl ?_
  refine lv_iadd hx hb dL_law_328 ?_
  refine va_sld hx hb hX hbl hbA hW.2 i1 dL_law_329 ?_
  refine lv_aload_n hx hb dL_law_330 rfl (lv_at hl 0 rfl) ?_
  refine lv_iload_n hx hb dL_law_331 rfl (lv_at hl 3 rfl) ?_
  refine lv_iconst (v := 2) hx hb dL_law_332 rfl ?_
  refine lv_iadd hx hb dL_law_333 ?_
  refine va_sld hx hb hX hbl hbA hW.2 i2 dL_law_334 ?_
  refine rc_L_35 X hW h2 ⟨⟨rfl, rfl⟩, Nat.le_of_ble_eq_true rfl, Nat.le_of_ble_eq_true rfl⟩ hl.1 (Nat.le_of_ble_eq_true rfl) dL_law_335 ⟨Nat.le_of_ble_eq_true rfl, Nat.le_of_ble_eq_true rfl⟩ (fun H locs hW => ?_)
  refine lv_icmp_eq (tgt := 1340) hx hb dL_law_338 (by decide) (fun _ => ?_) (fun z => absurd rfl z)
  exact hnx σ2 _ _ _ hr2 hW (lv_sub hl [0, 1, 2, 3] rfl)
theorem rc_L_36 {p : Program} {l : Launch} {e : Env} {R : Room} {s : State} {m : MethodId} {args : Array Value} {below : List Frame} {meth : Method} {c : Code} {H : Heap} {locs : List Loc} {cells slots : Nat} {Q : State → Prop} {cc : ByteArray} {pc nL : Nat} {ls : Array Slot} {rest : List Value} {G : lb_G} {σ : lb_Mem} {ret : Option FieldType} (X : lb_C G p s m args meth c cc nL RL ret) (hW : lb_W G s σ H locs) {x1 : Int32} {x2 : Int32} {qr : (Int32 × lb_Mem)} (h : f_X8_labels x1 x2 σ = some qr) (hR : lb_room rmX8_labels R 5) (hls : ls.size = nL) (hrest : (rest.map fun v => v.category).sum ≤ 8) (d : decode cc pc = .ok (.invokevirtual 36, 3)) (hcap : cells ≤ R.cells ∧ slots ≤ R.slots) (kk : ∀ (H1 : Heap) (locs1 : List Loc), lb_W G s qr.2 H1 locs1 → W p l e R s m args below meth c H1 locs1 cells slots Q (F0 m (pc + 3) ls (.int qr.1 :: rest))) : W p l e R s m args below meth c H locs cells slots Q (F0 m pc ls (.int x2 :: .int x1 :: .ref (lb_ad G 0) :: rest)) :=
  lb_goI hW (lb_runV (As := [.int x1, .int x2]) X hW (m_X8_labels l G σ x1 x2 qr h) (n := 2) ⟨qw_492, qw_43, qw_495, by decide +kernel⟩ hR qw_493 qw_494 lb_is0 rfl hls hrest d hcap) kk
theorem rc_L_39 {p : Program} {l : Launch} {e : Env} {R : Room} {s : State} {m : MethodId} {args : Array Value} {below : List Frame} {meth : Method} {c : Code} {H : Heap} {locs : List Loc} {cells slots : Nat} {Q : State → Prop} {cc : ByteArray} {pc nL : Nat} {ls : Array Slot} {rest : List Value} {G : lb_G} {σ : lb_Mem} {ret : Option FieldType} (X : lb_C G p s m args meth c cc nL RL ret) (hW : lb_W G s σ H locs) {x1 : Int32} {x2 : Int32} {qr : (Int32 × lb_Mem)} (h : f_X9_labels x1 x2 σ = some qr) (hR : lb_room rmX9_labels R 4) (hls : ls.size = nL) (hrest : (rest.map fun v => v.category).sum ≤ 8) (d : decode cc pc = .ok (.invokevirtual 39, 3)) (hcap : cells ≤ R.cells ∧ slots ≤ R.slots) (kk : ∀ (H1 : Heap) (locs1 : List Loc), lb_W G s qr.2 H1 locs1 → W p l e R s m args below meth c H1 locs1 cells slots Q (F0 m (pc + 3) ls (.int qr.1 :: rest))) : W p l e R s m args below meth c H locs cells slots Q (F0 m pc ls (.int x2 :: .int x1 :: .ref (lb_ad G 53) :: rest)) :=
  lb_goI hW (lb_runV (As := [.int x1, .int x2]) X hW (m_X9_labels l G σ x1 x2 qr h) (n := 2) ⟨qw_907, qw_52, qw_910, by decide +kernel⟩ hR qw_908 qw_909 lb_is53 rfl hls hrest d hcap) kk
def lb_st_labels (Rel : lb_Mem → Prop) : Prop := ∀ (σ : lb_Mem) (x1 : Int32) (x2 : Int32), Rel σ → ∃ (r : Int32) (σ1 σ2 : lb_Mem), f_X8_labels x1 x2 σ = some (r, σ1) ∧ f_X9_labels x1 x2 σ1 = some (r, σ2) ∧ Rel σ2
set_option maxRecDepth 20000 in
theorem lc_343 {p : Program} {l : Launch} {e : Env} {s : State} {m : MethodId} {below : List Frame} {meth : Method} {c : Code} {G : lb_G} {b L k : Nat} {xs : Nat → Int32} (X : lb_C G p s m #[Value.ref b] meth c cL_law 4 RL (some .boolean)) (hX : va_X b L xs s s.heap) (hbl : b < s.heap.size) (hbA : ¬ lb_A G b) (hk : k + 5 < L) (hL : L ≤ 3072) {Rel : lb_Mem → Prop} (hst : lb_st_labels Rel) (hnx : ∀ (σ : lb_Mem) (H : Heap) (locs : List Loc) (ls : Array Slot), Rel σ → lb_W G s σ H locs → lv_has ls 4 [(0, .ref b), (1, .ref (lb_ad G 0)), (2, .ref (lb_ad G 53)), (3, .int (nI k))] → W p l e room_1 s m #[Value.ref b] below meth c H locs 62 739 (lw_Z below #[Value.ref b] s) (F0 m 1340 ls [])) : ∀ (σ : lb_Mem) (H : Heap) (locs : List Loc) (ls : Array Slot), Rel σ → lb_W G s σ H locs → lv_has ls 4 [(0, .ref b), (1, .ref (lb_ad G 0)), (2, .ref (lb_ad G 53)), (3, .int (nI k))] → W p l e room_1 s m #[Value.ref b] below meth c H locs 62 739 (lw_Z below #[Value.ref b] s) (F0 m 343 ls []) := by
  have hx := X.1
  have hb := X.2.1
  obtain ⟨i0, i1, i2, i3, i4, i5⟩ := lb_scr hk hL
  intro σ H locs ls hr hW hl
  obtain ⟨r, σ1, σ2, h1, h2, hr2⟩ := hst σ (xs (nI k + 1).toNatClampNeg) (xs (nI k + 2).toNatClampNeg) hr
  refine lv_aload_n hx hb dL_law_343 rfl (lv_at hl 1 rfl) ?_
  refine lv_aload_n hx hb dL_law_344 rfl (lv_at hl 0 rfl) ?_
  refine lv_iload_n hx hb dL_law_345 rfl (lv_at hl 3 rfl) ?_
  refine lv_iconst (v := 1) hx hb dL_law_346 rfl ?_
  refine lv_iadd hx hb dL_law_347 ?_
  refine va_sld hx hb hX hbl hbA hW.2 i1 dL_law_348 ?_
  refine lv_aload_n hx hb dL_law_349 rfl (lv_at hl 0 rfl) ?_
  refine lv_iload_n hx hb dL_law_350 rfl (lv_at hl 3 rfl) ?_
  refine lv_iconst (v := 2) hx hb dL_law_351 rfl ?_
  refine lv_iadd hx hb dL_law_352 ?_
  refine va_sld hx hb hX hbl hbA hW.2 i2 dL_law_353 ?_
  refine rc_L_36 X hW h1 ⟨⟨rfl, rfl⟩, Nat.le_of_ble_eq_true rfl, Nat.le_of_ble_eq_true rfl⟩ hl.1 (Nat.le_of_ble_eq_true rfl) dL_law_354 ⟨Nat.le_of_ble_eq_true rfl, Nat.le_of_ble_eq_true rfl⟩ (fun H locs hW => ?_)
  refine lv_aload_n hx hb dL_law_357 rfl (lv_at hl 2 rfl) ?_
  refine lv_aload_n hx hb dL_law_358 rfl (lv_at hl 0 rfl) ?_
  refine lv_iload_n hx hb dL_law_359 rfl (lv_at hl 3 rfl) ?_
  refine lv_iconst (v := 1) hx hb dL_law_360 rfl ?_
  refine lv_iadd hx hb dL_law_361 ?_
  refine va_sld hx hb hX hbl hbA hW.2 i1 dL_law_362 ?_
  refine lv_aload_n hx hb dL_law_363 rfl (lv_at hl 0 rfl) ?_
  refine lv_iload_n hx hb dL_law_364 rfl (lv_at hl 3 rfl) ?_
  refine lv_iconst (v := 2) hx hb dL_law_365 rfl ?_
  refine lv_iadd hx hb dL_law_366 ?_
  refine va_sld hx hb hX hbl hbA hW.2 i2 dL_law_367 ?_
  refine rc_L_39 X hW h2 ⟨⟨rfl, rfl⟩, Nat.le_of_ble_eq_true rfl, Nat.le_of_ble_eq_true rfl⟩ hl.1 (Nat.le_of_ble_eq_true rfl) dL_law_368 ⟨Nat.le_of_ble_eq_true rfl, Nat.le_of_ble_eq_true rfl⟩ (fun H locs hW => ?_)
  refine lv_icmp_eq (tgt := 1340) hx hb dL_law_371 (by decide) (fun _ => ?_) (fun z => absurd rfl z)
  exact hnx σ2 _ _ _ hr2 hW (lv_sub hl [0, 1, 2, 3] rfl)
theorem rc_L_40 {p : Program} {l : Launch} {e : Env} {R : Room} {s : State} {m : MethodId} {args : Array Value} {below : List Frame} {meth : Method} {c : Code} {H : Heap} {locs : List Loc} {cells slots : Nat} {Q : State → Prop} {cc : ByteArray} {pc nL : Nat} {ls : Array Slot} {rest : List Value} {G : lb_G} {σ : lb_Mem} {ret : Option FieldType} (X : lb_C G p s m args meth c cc nL RL ret) (hW : lb_W G s σ H locs) {x1 : Int32} {x2 : Int32} {qr : (Int32 × lb_Mem)} (h : f_X8_gives x1 x2 σ = some qr) (hR : lb_room rmX8_gives R 5) (hls : ls.size = nL) (hrest : (rest.map fun v => v.category).sum ≤ 8) (d : decode cc pc = .ok (.invokevirtual 40, 3)) (hcap : cells ≤ R.cells ∧ slots ≤ R.slots) (kk : ∀ (H1 : Heap) (locs1 : List Loc), lb_W G s qr.2 H1 locs1 → W p l e R s m args below meth c H1 locs1 cells slots Q (F0 m (pc + 3) ls (.int qr.1 :: rest))) : W p l e R s m args below meth c H locs cells slots Q (F0 m pc ls (.int x2 :: .int x1 :: .ref (lb_ad G 0) :: rest)) :=
  lb_goI hW (lb_runV (As := [.int x1, .int x2]) X hW (m_X8_gives l G σ x1 x2 qr h) (n := 2) ⟨qw_497, qw_43, qw_500, by decide +kernel⟩ hR qw_498 qw_499 lb_is0 rfl hls hrest d hcap) kk
theorem rc_L_43 {p : Program} {l : Launch} {e : Env} {R : Room} {s : State} {m : MethodId} {args : Array Value} {below : List Frame} {meth : Method} {c : Code} {H : Heap} {locs : List Loc} {cells slots : Nat} {Q : State → Prop} {cc : ByteArray} {pc nL : Nat} {ls : Array Slot} {rest : List Value} {G : lb_G} {σ : lb_Mem} {ret : Option FieldType} (X : lb_C G p s m args meth c cc nL RL ret) (hW : lb_W G s σ H locs) {x1 : Int32} {x2 : Int32} {qr : (Int32 × lb_Mem)} (h : f_X9_gives x1 x2 σ = some qr) (hR : lb_room rmX9_gives R 4) (hls : ls.size = nL) (hrest : (rest.map fun v => v.category).sum ≤ 8) (d : decode cc pc = .ok (.invokevirtual 43, 3)) (hcap : cells ≤ R.cells ∧ slots ≤ R.slots) (kk : ∀ (H1 : Heap) (locs1 : List Loc), lb_W G s qr.2 H1 locs1 → W p l e R s m args below meth c H1 locs1 cells slots Q (F0 m (pc + 3) ls (.int qr.1 :: rest))) : W p l e R s m args below meth c H locs cells slots Q (F0 m pc ls (.int x2 :: .int x1 :: .ref (lb_ad G 53) :: rest)) :=
  lb_goI hW (lb_runV (As := [.int x1, .int x2]) X hW (m_X9_gives l G σ x1 x2 qr h) (n := 2) ⟨qw_911, qw_52, qw_914, by decide +kernel⟩ hR qw_912 qw_913 lb_is53 rfl hls hrest d hcap) kk
def lb_st_gives (Rel : lb_Mem → Prop) : Prop := ∀ (σ : lb_Mem) (x1 : Int32) (x2 : Int32), Rel σ → ∃ (r : Int32) (σ1 σ2 : lb_Mem), f_X8_gives x1 x2 σ = some (r, σ1) ∧ f_X9_gives x1 x2 σ1 = some (r, σ2) ∧ Rel σ2
set_option maxRecDepth 20000 in
theorem lc_376 {p : Program} {l : Launch} {e : Env} {s : State} {m : MethodId} {below : List Frame} {meth : Method} {c : Code} {G : lb_G} {b L k : Nat} {xs : Nat → Int32} (X : lb_C G p s m #[Value.ref b] meth c cL_law 4 RL (some .boolean)) (hX : va_X b L xs s s.heap) (hbl : b < s.heap.size) (hbA : ¬ lb_A G b) (hk : k + 5 < L) (hL : L ≤ 3072) {Rel : lb_Mem → Prop} (hst : lb_st_gives Rel) (hnx : ∀ (σ : lb_Mem) (H : Heap) (locs : List Loc) (ls : Array Slot), Rel σ → lb_W G s σ H locs → lv_has ls 4 [(0, .ref b), (1, .ref (lb_ad G 0)), (2, .ref (lb_ad G 53)), (3, .int (nI k))] → W p l e room_1 s m #[Value.ref b] below meth c H locs 62 739 (lw_Z below #[Value.ref b] s) (F0 m 1340 ls [])) : ∀ (σ : lb_Mem) (H : Heap) (locs : List Loc) (ls : Array Slot), Rel σ → lb_W G s σ H locs → lv_has ls 4 [(0, .ref b), (1, .ref (lb_ad G 0)), (2, .ref (lb_ad G 53)), (3, .int (nI k))] → W p l e room_1 s m #[Value.ref b] below meth c H locs 62 739 (lw_Z below #[Value.ref b] s) (F0 m 376 ls []) := by
  have hx := X.1
  have hb := X.2.1
  obtain ⟨i0, i1, i2, i3, i4, i5⟩ := lb_scr hk hL
  intro σ H locs ls hr hW hl
  obtain ⟨r, σ1, σ2, h1, h2, hr2⟩ := hst σ (xs (nI k + 1).toNatClampNeg) (xs (nI k + 2).toNatClampNeg) hr
  refine lv_aload_n hx hb dL_law_376 rfl (lv_at hl 1 rfl) ?_
  refine lv_aload_n hx hb dL_law_377 rfl (lv_at hl 0 rfl) ?_
  refine lv_iload_n hx hb dL_law_378 rfl (lv_at hl 3 rfl) ?_
  refine lv_iconst (v := 1) hx hb dL_law_379 rfl ?_
  refine lv_iadd hx hb dL_law_380 ?_
  refine va_sld hx hb hX hbl hbA hW.2 i1 dL_law_381 ?_
  refine lv_aload_n hx hb dL_law_382 rfl (lv_at hl 0 rfl) ?_
  refine lv_iload_n hx hb dL_law_383 rfl (lv_at hl 3 rfl) ?_
  refine lv_iconst (v := 2) hx hb dL_law_384 rfl ?_
  refine lv_iadd hx hb dL_law_385 ?_
  refine va_sld hx hb hX hbl hbA hW.2 i2 dL_law_386 ?_
  refine rc_L_40 X hW h1 ⟨⟨rfl, rfl⟩, Nat.le_of_ble_eq_true rfl, Nat.le_of_ble_eq_true rfl⟩ hl.1 (Nat.le_of_ble_eq_true rfl) dL_law_387 ⟨Nat.le_of_ble_eq_true rfl, Nat.le_of_ble_eq_true rfl⟩ (fun H locs hW => ?_)
  refine lv_aload_n hx hb dL_law_390 rfl (lv_at hl 2 rfl) ?_
  refine lv_aload_n hx hb dL_law_391 rfl (lv_at hl 0 rfl) ?_
  refine lv_iload_n hx hb dL_law_392 rfl (lv_at hl 3 rfl) ?_
  refine lv_iconst (v := 1) hx hb dL_law_393 rfl ?_
  refine lv_iadd hx hb dL_law_394 ?_
  refine va_sld hx hb hX hbl hbA hW.2 i1 dL_law_395 ?_
  refine lv_aload_n hx hb dL_law_396 rfl (lv_at hl 0 rfl) ?_
  refine lv_iload_n hx hb dL_law_397 rfl (lv_at hl 3 rfl) ?_
  refine lv_iconst (v := 2) hx hb dL_law_398 rfl ?_
  refine lv_iadd hx hb dL_law_399 ?_
  refine va_sld hx hb hX hbl hbA hW.2 i2 dL_law_400 ?_
  refine rc_L_43 X hW h2 ⟨⟨rfl, rfl⟩, Nat.le_of_ble_eq_true rfl, Nat.le_of_ble_eq_true rfl⟩ hl.1 (Nat.le_of_ble_eq_true rfl) dL_law_401 ⟨Nat.le_of_ble_eq_true rfl, Nat.le_of_ble_eq_true rfl⟩ (fun H locs hW => ?_)
  refine lv_icmp_eq (tgt := 1340) hx hb dL_law_404 (by decide) (fun _ => ?_) (fun z => absurd rfl z)
  exact hnx σ2 _ _ _ hr2 hW (lv_sub hl [0, 1, 2, 3] rfl)
theorem rc_L_44 {p : Program} {l : Launch} {e : Env} {R : Room} {s : State} {m : MethodId} {args : Array Value} {below : List Frame} {meth : Method} {c : Code} {H : Heap} {locs : List Loc} {cells slots : Nat} {Q : State → Prop} {cc : ByteArray} {pc nL : Nat} {ls : Array Slot} {rest : List Value} {G : lb_G} {σ : lb_Mem} {ret : Option FieldType} (X : lb_C G p s m args meth c cc nL RL ret) (hW : lb_W G s σ H locs) {x1 : Int32} {x2 : Int32} {qr : (Int32 × lb_Mem)} (h : f_X8_likes x1 x2 σ = some qr) (hR : lb_room rmX8_likes R 5) (hls : ls.size = nL) (hrest : (rest.map fun v => v.category).sum ≤ 8) (d : decode cc pc = .ok (.invokevirtual 44, 3)) (hcap : cells ≤ R.cells ∧ slots ≤ R.slots) (kk : ∀ (H1 : Heap) (locs1 : List Loc), lb_W G s qr.2 H1 locs1 → W p l e R s m args below meth c H1 locs1 cells slots Q (F0 m (pc + 3) ls (.int qr.1 :: rest))) : W p l e R s m args below meth c H locs cells slots Q (F0 m pc ls (.int x2 :: .int x1 :: .ref (lb_ad G 0) :: rest)) :=
  lb_goI hW (lb_runV (As := [.int x1, .int x2]) X hW (m_X8_likes l G σ x1 x2 qr h) (n := 2) ⟨qw_501, qw_43, qw_504, by decide +kernel⟩ hR qw_502 qw_503 lb_is0 rfl hls hrest d hcap) kk
theorem rc_L_47 {p : Program} {l : Launch} {e : Env} {R : Room} {s : State} {m : MethodId} {args : Array Value} {below : List Frame} {meth : Method} {c : Code} {H : Heap} {locs : List Loc} {cells slots : Nat} {Q : State → Prop} {cc : ByteArray} {pc nL : Nat} {ls : Array Slot} {rest : List Value} {G : lb_G} {σ : lb_Mem} {ret : Option FieldType} (X : lb_C G p s m args meth c cc nL RL ret) (hW : lb_W G s σ H locs) {x1 : Int32} {x2 : Int32} {qr : (Int32 × lb_Mem)} (h : f_X9_likes x1 x2 σ = some qr) (hR : lb_room rmX9_likes R 4) (hls : ls.size = nL) (hrest : (rest.map fun v => v.category).sum ≤ 8) (d : decode cc pc = .ok (.invokevirtual 47, 3)) (hcap : cells ≤ R.cells ∧ slots ≤ R.slots) (kk : ∀ (H1 : Heap) (locs1 : List Loc), lb_W G s qr.2 H1 locs1 → W p l e R s m args below meth c H1 locs1 cells slots Q (F0 m (pc + 3) ls (.int qr.1 :: rest))) : W p l e R s m args below meth c H locs cells slots Q (F0 m pc ls (.int x2 :: .int x1 :: .ref (lb_ad G 53) :: rest)) :=
  lb_goI hW (lb_runV (As := [.int x1, .int x2]) X hW (m_X9_likes l G σ x1 x2 qr h) (n := 2) ⟨qw_915, qw_52, qw_918, by decide +kernel⟩ hR qw_916 qw_917 lb_is53 rfl hls hrest d hcap) kk
def lb_st_likes (Rel : lb_Mem → Prop) : Prop := ∀ (σ : lb_Mem) (x1 : Int32) (x2 : Int32), Rel σ → ∃ (r : Int32) (σ1 σ2 : lb_Mem), f_X8_likes x1 x2 σ = some (r, σ1) ∧ f_X9_likes x1 x2 σ1 = some (r, σ2) ∧ Rel σ2
set_option maxRecDepth 20000 in
theorem lc_409 {p : Program} {l : Launch} {e : Env} {s : State} {m : MethodId} {below : List Frame} {meth : Method} {c : Code} {G : lb_G} {b L k : Nat} {xs : Nat → Int32} (X : lb_C G p s m #[Value.ref b] meth c cL_law 4 RL (some .boolean)) (hX : va_X b L xs s s.heap) (hbl : b < s.heap.size) (hbA : ¬ lb_A G b) (hk : k + 5 < L) (hL : L ≤ 3072) {Rel : lb_Mem → Prop} (hst : lb_st_likes Rel) (hnx : ∀ (σ : lb_Mem) (H : Heap) (locs : List Loc) (ls : Array Slot), Rel σ → lb_W G s σ H locs → lv_has ls 4 [(0, .ref b), (1, .ref (lb_ad G 0)), (2, .ref (lb_ad G 53)), (3, .int (nI k))] → W p l e room_1 s m #[Value.ref b] below meth c H locs 62 739 (lw_Z below #[Value.ref b] s) (F0 m 1340 ls [])) : ∀ (σ : lb_Mem) (H : Heap) (locs : List Loc) (ls : Array Slot), Rel σ → lb_W G s σ H locs → lv_has ls 4 [(0, .ref b), (1, .ref (lb_ad G 0)), (2, .ref (lb_ad G 53)), (3, .int (nI k))] → W p l e room_1 s m #[Value.ref b] below meth c H locs 62 739 (lw_Z below #[Value.ref b] s) (F0 m 409 ls []) := by
  have hx := X.1
  have hb := X.2.1
  obtain ⟨i0, i1, i2, i3, i4, i5⟩ := lb_scr hk hL
  intro σ H locs ls hr hW hl
  obtain ⟨r, σ1, σ2, h1, h2, hr2⟩ := hst σ (xs (nI k + 1).toNatClampNeg) (xs (nI k + 2).toNatClampNeg) hr
  refine lv_aload_n hx hb dL_law_409 rfl (lv_at hl 1 rfl) ?_
  refine lv_aload_n hx hb dL_law_410 rfl (lv_at hl 0 rfl) ?_
  refine lv_iload_n hx hb dL_law_411 rfl (lv_at hl 3 rfl) ?_
  refine lv_iconst (v := 1) hx hb dL_law_412 rfl ?_
  refine lv_iadd hx hb dL_law_413 ?_
  refine va_sld hx hb hX hbl hbA hW.2 i1 dL_law_414 ?_
  refine lv_aload_n hx hb dL_law_415 rfl (lv_at hl 0 rfl) ?_
  refine lv_iload_n hx hb dL_law_416 rfl (lv_at hl 3 rfl) ?_
  refine lv_iconst (v := 2) hx hb dL_law_417 rfl ?_
  refine lv_iadd hx hb dL_law_418 ?_
  refine va_sld hx hb hX hbl hbA hW.2 i2 dL_law_419 ?_
  refine rc_L_44 X hW h1 ⟨⟨rfl, rfl⟩, Nat.le_of_ble_eq_true rfl, Nat.le_of_ble_eq_true rfl⟩ hl.1 (Nat.le_of_ble_eq_true rfl) dL_law_420 ⟨Nat.le_of_ble_eq_true rfl, Nat.le_of_ble_eq_true rfl⟩ (fun H locs hW => ?_)
  refine lv_aload_n hx hb dL_law_423 rfl (lv_at hl 2 rfl) ?_
  refine lv_aload_n hx hb dL_law_424 rfl (lv_at hl 0 rfl) ?_
  refine lv_iload_n hx hb dL_law_425 rfl (lv_at hl 3 rfl) ?_
  refine lv_iconst (v := 1) hx hb dL_law_426 rfl ?_
  refine lv_iadd hx hb dL_law_427 ?_
  refine va_sld hx hb hX hbl hbA hW.2 i1 dL_law_428 ?_
  refine lv_aload_n hx hb dL_law_429 rfl (lv_at hl 0 rfl) ?_
  refine lv_iload_n hx hb dL_law_430 rfl (lv_at hl 3 rfl) ?_
  refine lv_iconst (v := 2) hx hb dL_law_431 rfl ?_
  refine lv_iadd hx hb dL_law_432 ?_
  refine va_sld hx hb hX hbl hbA hW.2 i2 dL_law_433 ?_
  refine rc_L_47 X hW h2 ⟨⟨rfl, rfl⟩, Nat.le_of_ble_eq_true rfl, Nat.le_of_ble_eq_true rfl⟩ hl.1 (Nat.le_of_ble_eq_true rfl) dL_law_434 ⟨Nat.le_of_ble_eq_true rfl, Nat.le_of_ble_eq_true rfl⟩ (fun H locs hW => ?_)
  refine lv_icmp_eq (tgt := 1340) hx hb dL_law_437 (by decide) (fun _ => ?_) (fun z => absurd rfl z)
  exact hnx σ2 _ _ _ hr2 hW (lv_sub hl [0, 1, 2, 3] rfl)
theorem rc_L_48 {p : Program} {l : Launch} {e : Env} {R : Room} {s : State} {m : MethodId} {args : Array Value} {below : List Frame} {meth : Method} {c : Code} {H : Heap} {locs : List Loc} {cells slots : Nat} {Q : State → Prop} {cc : ByteArray} {pc nL : Nat} {ls : Array Slot} {rest : List Value} {G : lb_G} {σ : lb_Mem} {ret : Option FieldType} (X : lb_C G p s m args meth c cc nL RL ret) (hW : lb_W G s σ H locs) {x1 : Int32} {x2 : Int32} {qr : (Int32 × lb_Mem)} (h : f_X8_fills x1 x2 σ = some qr) (hR : lb_room rmX8_fills R 5) (hls : ls.size = nL) (hrest : (rest.map fun v => v.category).sum ≤ 8) (d : decode cc pc = .ok (.invokevirtual 48, 3)) (hcap : cells ≤ R.cells ∧ slots ≤ R.slots) (kk : ∀ (H1 : Heap) (locs1 : List Loc), lb_W G s qr.2 H1 locs1 → W p l e R s m args below meth c H1 locs1 cells slots Q (F0 m (pc + 3) ls (.int qr.1 :: rest))) : W p l e R s m args below meth c H locs cells slots Q (F0 m pc ls (.int x2 :: .int x1 :: .ref (lb_ad G 0) :: rest)) :=
  lb_goI hW (lb_runV (As := [.int x1, .int x2]) X hW (m_X8_fills l G σ x1 x2 qr h) (n := 2) ⟨qw_506, qw_43, qw_509, by decide +kernel⟩ hR qw_507 qw_508 lb_is0 rfl hls hrest d hcap) kk
theorem rc_L_51 {p : Program} {l : Launch} {e : Env} {R : Room} {s : State} {m : MethodId} {args : Array Value} {below : List Frame} {meth : Method} {c : Code} {H : Heap} {locs : List Loc} {cells slots : Nat} {Q : State → Prop} {cc : ByteArray} {pc nL : Nat} {ls : Array Slot} {rest : List Value} {G : lb_G} {σ : lb_Mem} {ret : Option FieldType} (X : lb_C G p s m args meth c cc nL RL ret) (hW : lb_W G s σ H locs) {x1 : Int32} {x2 : Int32} {qr : (Int32 × lb_Mem)} (h : f_X9_fills x1 x2 σ = some qr) (hR : lb_room rmX9_fills R 5) (hls : ls.size = nL) (hrest : (rest.map fun v => v.category).sum ≤ 8) (d : decode cc pc = .ok (.invokevirtual 51, 3)) (hcap : cells ≤ R.cells ∧ slots ≤ R.slots) (kk : ∀ (H1 : Heap) (locs1 : List Loc), lb_W G s qr.2 H1 locs1 → W p l e R s m args below meth c H1 locs1 cells slots Q (F0 m (pc + 3) ls (.int qr.1 :: rest))) : W p l e R s m args below meth c H locs cells slots Q (F0 m pc ls (.int x2 :: .int x1 :: .ref (lb_ad G 53) :: rest)) :=
  lb_goI hW (lb_runV (As := [.int x1, .int x2]) X hW (m_X9_fills l G σ x1 x2 qr h) (n := 2) ⟨qw_919, qw_52, qw_922, by decide +kernel⟩ hR qw_920 qw_921 lb_is53 rfl hls hrest d hcap) kk
def lb_st_fills (Rel : lb_Mem → Prop) : Prop := ∀ (σ : lb_Mem) (x1 : Int32) (x2 : Int32), Rel σ → ∃ (r : Int32) (σ1 σ2 : lb_Mem), f_X8_fills x1 x2 σ = some (r, σ1) ∧ f_X9_fills x1 x2 σ1 = some (r, σ2) ∧ Rel σ2
set_option maxRecDepth 20000 in
theorem lc_442 {p : Program} {l : Launch} {e : Env} {s : State} {m : MethodId} {below : List Frame} {meth : Method} {c : Code} {G : lb_G} {b L k : Nat} {xs : Nat → Int32} (X : lb_C G p s m #[Value.ref b] meth c cL_law 4 RL (some .boolean)) (hX : va_X b L xs s s.heap) (hbl : b < s.heap.size) (hbA : ¬ lb_A G b) (hk : k + 5 < L) (hL : L ≤ 3072) {Rel : lb_Mem → Prop} (hst : lb_st_fills Rel) (hnx : ∀ (σ : lb_Mem) (H : Heap) (locs : List Loc) (ls : Array Slot), Rel σ → lb_W G s σ H locs → lv_has ls 4 [(0, .ref b), (1, .ref (lb_ad G 0)), (2, .ref (lb_ad G 53)), (3, .int (nI k))] → W p l e room_1 s m #[Value.ref b] below meth c H locs 62 739 (lw_Z below #[Value.ref b] s) (F0 m 1340 ls [])) : ∀ (σ : lb_Mem) (H : Heap) (locs : List Loc) (ls : Array Slot), Rel σ → lb_W G s σ H locs → lv_has ls 4 [(0, .ref b), (1, .ref (lb_ad G 0)), (2, .ref (lb_ad G 53)), (3, .int (nI k))] → W p l e room_1 s m #[Value.ref b] below meth c H locs 62 739 (lw_Z below #[Value.ref b] s) (F0 m 442 ls []) := by
  have hx := X.1
  have hb := X.2.1
  obtain ⟨i0, i1, i2, i3, i4, i5⟩ := lb_scr hk hL
  intro σ H locs ls hr hW hl
  obtain ⟨r, σ1, σ2, h1, h2, hr2⟩ := hst σ (xs (nI k + 1).toNatClampNeg) (xs (nI k + 2).toNatClampNeg) hr
  refine lv_aload_n hx hb dL_law_442 rfl (lv_at hl 1 rfl) ?_
  refine lv_aload_n hx hb dL_law_443 rfl (lv_at hl 0 rfl) ?_
  refine lv_iload_n hx hb dL_law_444 rfl (lv_at hl 3 rfl) ?_
  refine lv_iconst (v := 1) hx hb dL_law_445 rfl ?_
  refine lv_iadd hx hb dL_law_446 ?_
  refine va_sld hx hb hX hbl hbA hW.2 i1 dL_law_447 ?_
  refine lv_aload_n hx hb dL_law_448 rfl (lv_at hl 0 rfl) ?_
  refine lv_iload_n hx hb dL_law_449 rfl (lv_at hl 3 rfl) ?_
  refine lv_iconst (v := 2) hx hb dL_law_450 rfl ?_
  refine lv_iadd hx hb dL_law_451 ?_
  refine va_sld hx hb hX hbl hbA hW.2 i2 dL_law_452 ?_
  refine rc_L_48 X hW h1 ⟨⟨rfl, rfl⟩, Nat.le_of_ble_eq_true rfl, Nat.le_of_ble_eq_true rfl⟩ hl.1 (Nat.le_of_ble_eq_true rfl) dL_law_453 ⟨Nat.le_of_ble_eq_true rfl, Nat.le_of_ble_eq_true rfl⟩ (fun H locs hW => ?_)
  refine lv_aload_n hx hb dL_law_456 rfl (lv_at hl 2 rfl) ?_
  refine lv_aload_n hx hb dL_law_457 rfl (lv_at hl 0 rfl) ?_
  refine lv_iload_n hx hb dL_law_458 rfl (lv_at hl 3 rfl) ?_
  refine lv_iconst (v := 1) hx hb dL_law_459 rfl ?_
  refine lv_iadd hx hb dL_law_460 ?_
  refine va_sld hx hb hX hbl hbA hW.2 i1 dL_law_461 ?_
  refine lv_aload_n hx hb dL_law_462 rfl (lv_at hl 0 rfl) ?_
  refine lv_iload_n hx hb dL_law_463 rfl (lv_at hl 3 rfl) ?_
  refine lv_iconst (v := 2) hx hb dL_law_464 rfl ?_
  refine lv_iadd hx hb dL_law_465 ?_
  refine va_sld hx hb hX hbl hbA hW.2 i2 dL_law_466 ?_
  refine rc_L_51 X hW h2 ⟨⟨rfl, rfl⟩, Nat.le_of_ble_eq_true rfl, Nat.le_of_ble_eq_true rfl⟩ hl.1 (Nat.le_of_ble_eq_true rfl) dL_law_467 ⟨Nat.le_of_ble_eq_true rfl, Nat.le_of_ble_eq_true rfl⟩ (fun H locs hW => ?_)
  refine lv_icmp_eq (tgt := 1340) hx hb dL_law_470 (by decide) (fun _ => ?_) (fun z => absurd rfl z)
  exact hnx σ2 _ _ _ hr2 hW (lv_sub hl [0, 1, 2, 3] rfl)
theorem rc_L_52 {p : Program} {l : Launch} {e : Env} {R : Room} {s : State} {m : MethodId} {args : Array Value} {below : List Frame} {meth : Method} {c : Code} {H : Heap} {locs : List Loc} {cells slots : Nat} {Q : State → Prop} {cc : ByteArray} {pc nL : Nat} {ls : Array Slot} {rest : List Value} {G : lb_G} {σ : lb_Mem} {ret : Option FieldType} (X : lb_C G p s m args meth c cc nL RL ret) (hW : lb_W G s σ H locs) {x1 : Int32} {x2 : Int32} {x3 : Int32} {qr : (Int32 × lb_Mem)} (h : f_X8_turn x1 x2 x3 σ = some qr) (hR : lb_room rmX8_turn R 6) (hls : ls.size = nL) (hrest : (rest.map fun v => v.category).sum ≤ 8) (d : decode cc pc = .ok (.invokevirtual 52, 3)) (hcap : cells ≤ R.cells ∧ slots ≤ R.slots) (kk : ∀ (H1 : Heap) (locs1 : List Loc), lb_W G s qr.2 H1 locs1 → W p l e R s m args below meth c H1 locs1 cells slots Q (F0 m (pc + 3) ls (.int qr.1 :: rest))) : W p l e R s m args below meth c H locs cells slots Q (F0 m pc ls (.int x3 :: .int x2 :: .int x1 :: .ref (lb_ad G 0) :: rest)) :=
  lb_goI hW (lb_runV (As := [.int x1, .int x2, .int x3]) X hW (m_X8_turn l G σ x1 x2 x3 qr h) (n := 3) ⟨qw_510, qw_43, qw_513, by decide +kernel⟩ hR qw_511 qw_512 lb_is0 rfl hls hrest d hcap) kk
theorem rc_L_56 {p : Program} {l : Launch} {e : Env} {R : Room} {s : State} {m : MethodId} {args : Array Value} {below : List Frame} {meth : Method} {c : Code} {H : Heap} {locs : List Loc} {cells slots : Nat} {Q : State → Prop} {cc : ByteArray} {pc nL : Nat} {ls : Array Slot} {rest : List Value} {G : lb_G} {σ : lb_Mem} {ret : Option FieldType} (X : lb_C G p s m args meth c cc nL RL ret) (hW : lb_W G s σ H locs) {x1 : Int32} {x2 : Int32} {x3 : Int32} {qr : (Int32 × lb_Mem)} (h : f_X9_turn x1 x2 x3 σ = some qr) (hR : lb_room rmX9_turn R 6) (hls : ls.size = nL) (hrest : (rest.map fun v => v.category).sum ≤ 8) (d : decode cc pc = .ok (.invokevirtual 56, 3)) (hcap : cells ≤ R.cells ∧ slots ≤ R.slots) (kk : ∀ (H1 : Heap) (locs1 : List Loc), lb_W G s qr.2 H1 locs1 → W p l e R s m args below meth c H1 locs1 cells slots Q (F0 m (pc + 3) ls (.int qr.1 :: rest))) : W p l e R s m args below meth c H locs cells slots Q (F0 m pc ls (.int x3 :: .int x2 :: .int x1 :: .ref (lb_ad G 53) :: rest)) :=
  lb_goI hW (lb_runV (As := [.int x1, .int x2, .int x3]) X hW (m_X9_turn l G σ x1 x2 x3 qr h) (n := 3) ⟨qw_926, qw_52, qw_929, by decide +kernel⟩ hR qw_927 qw_928 lb_is53 rfl hls hrest d hcap) kk
def lb_st_turn (Rel : lb_Mem → Prop) : Prop := ∀ (σ : lb_Mem) (x1 : Int32) (x2 : Int32) (x3 : Int32), Rel σ → ∃ (r : Int32) (σ1 σ2 : lb_Mem), f_X8_turn x1 x2 x3 σ = some (r, σ1) ∧ f_X9_turn x1 x2 x3 σ1 = some (r, σ2) ∧ Rel σ2
set_option maxRecDepth 20000 in
theorem lc_475 {p : Program} {l : Launch} {e : Env} {s : State} {m : MethodId} {below : List Frame} {meth : Method} {c : Code} {G : lb_G} {b L k : Nat} {xs : Nat → Int32} (X : lb_C G p s m #[Value.ref b] meth c cL_law 4 RL (some .boolean)) (hX : va_X b L xs s s.heap) (hbl : b < s.heap.size) (hbA : ¬ lb_A G b) (hk : k + 5 < L) (hL : L ≤ 3072) {Rel : lb_Mem → Prop} (hst : lb_st_turn Rel) (hnx : ∀ (σ : lb_Mem) (H : Heap) (locs : List Loc) (ls : Array Slot), Rel σ → lb_W G s σ H locs → lv_has ls 4 [(0, .ref b), (1, .ref (lb_ad G 0)), (2, .ref (lb_ad G 53)), (3, .int (nI k))] → W p l e room_1 s m #[Value.ref b] below meth c H locs 62 739 (lw_Z below #[Value.ref b] s) (F0 m 1340 ls [])) : ∀ (σ : lb_Mem) (H : Heap) (locs : List Loc) (ls : Array Slot), Rel σ → lb_W G s σ H locs → lv_has ls 4 [(0, .ref b), (1, .ref (lb_ad G 0)), (2, .ref (lb_ad G 53)), (3, .int (nI k))] → W p l e room_1 s m #[Value.ref b] below meth c H locs 62 739 (lw_Z below #[Value.ref b] s) (F0 m 475 ls []) := by
  have hx := X.1
  have hb := X.2.1
  obtain ⟨i0, i1, i2, i3, i4, i5⟩ := lb_scr hk hL
  intro σ H locs ls hr hW hl
  obtain ⟨r, σ1, σ2, h1, h2, hr2⟩ := hst σ (xs (nI k + 1).toNatClampNeg) (xs (nI k + 2).toNatClampNeg) (xs (nI k + 3).toNatClampNeg) hr
  refine lv_aload_n hx hb dL_law_475 rfl (lv_at hl 1 rfl) ?_
  refine lv_aload_n hx hb dL_law_476 rfl (lv_at hl 0 rfl) ?_
  refine lv_iload_n hx hb dL_law_477 rfl (lv_at hl 3 rfl) ?_
  refine lv_iconst (v := 1) hx hb dL_law_478 rfl ?_
  refine lv_iadd hx hb dL_law_479 ?_
  refine va_sld hx hb hX hbl hbA hW.2 i1 dL_law_480 ?_
  refine lv_aload_n hx hb dL_law_481 rfl (lv_at hl 0 rfl) ?_
  refine lv_iload_n hx hb dL_law_482 rfl (lv_at hl 3 rfl) ?_
  refine lv_iconst (v := 2) hx hb dL_law_483 rfl ?_
  refine lv_iadd hx hb dL_law_484 ?_
  refine va_sld hx hb hX hbl hbA hW.2 i2 dL_law_485 ?_
  refine lv_aload_n hx hb dL_law_486 rfl (lv_at hl 0 rfl) ?_
  refine lv_iload_n hx hb dL_law_487 rfl (lv_at hl 3 rfl) ?_
  refine lv_iconst (v := 3) hx hb dL_law_488 rfl ?_
  refine lv_iadd hx hb dL_law_489 ?_
  refine va_sld hx hb hX hbl hbA hW.2 i3 dL_law_490 ?_
  refine rc_L_52 X hW h1 ⟨⟨rfl, rfl⟩, Nat.le_of_ble_eq_true rfl, Nat.le_of_ble_eq_true rfl⟩ hl.1 (Nat.le_of_ble_eq_true rfl) dL_law_491 ⟨Nat.le_of_ble_eq_true rfl, Nat.le_of_ble_eq_true rfl⟩ (fun H locs hW => ?_)
  refine lv_aload_n hx hb dL_law_494 rfl (lv_at hl 2 rfl) ?_
  refine lv_aload_n hx hb dL_law_495 rfl (lv_at hl 0 rfl) ?_
  refine lv_iload_n hx hb dL_law_496 rfl (lv_at hl 3 rfl) ?_
  refine lv_iconst (v := 1) hx hb dL_law_497 rfl ?_
  refine lv_iadd hx hb dL_law_498 ?_
  refine va_sld hx hb hX hbl hbA hW.2 i1 dL_law_499 ?_
  refine lv_aload_n hx hb dL_law_500 rfl (lv_at hl 0 rfl) ?_
  refine lv_iload_n hx hb dL_law_501 rfl (lv_at hl 3 rfl) ?_
  refine lv_iconst (v := 2) hx hb dL_law_502 rfl ?_
  refine lv_iadd hx hb dL_law_503 ?_
  refine va_sld hx hb hX hbl hbA hW.2 i2 dL_law_504 ?_
  refine lv_aload_n hx hb dL_law_505 rfl (lv_at hl 0 rfl) ?_
  refine lv_iload_n hx hb dL_law_506 rfl (lv_at hl 3 rfl) ?_
  refine lv_iconst (v := 3) hx hb dL_law_507 rfl ?_
  refine lv_iadd hx hb dL_law_508 ?_
  refine va_sld hx hb hX hbl hbA hW.2 i3 dL_law_509 ?_
  refine rc_L_56 X hW h2 ⟨⟨rfl, rfl⟩, Nat.le_of_ble_eq_true rfl, Nat.le_of_ble_eq_true rfl⟩ hl.1 (Nat.le_of_ble_eq_true rfl) dL_law_510 ⟨Nat.le_of_ble_eq_true rfl, Nat.le_of_ble_eq_true rfl⟩ (fun H locs hW => ?_)
  refine lv_icmp_eq (tgt := 1340) hx hb dL_law_513 (by decide) (fun _ => ?_) (fun z => absurd rfl z)
  exact hnx σ2 _ _ _ hr2 hW (lv_sub hl [0, 1, 2, 3] rfl)
theorem rc_L_57 {p : Program} {l : Launch} {e : Env} {R : Room} {s : State} {m : MethodId} {args : Array Value} {below : List Frame} {meth : Method} {c : Code} {H : Heap} {locs : List Loc} {cells slots : Nat} {Q : State → Prop} {cc : ByteArray} {pc nL : Nat} {ls : Array Slot} {rest : List Value} {G : lb_G} {σ : lb_Mem} {ret : Option FieldType} (X : lb_C G p s m args meth c cc nL RL ret) (hW : lb_W G s σ H locs) {x1 : Int32} {qr : (Int32 × lb_Mem)} (h : f_X8_years x1 σ = some qr) (hR : lb_room rmX8_years R 3) (hls : ls.size = nL) (hrest : (rest.map fun v => v.category).sum ≤ 8) (d : decode cc pc = .ok (.invokevirtual 57, 3)) (hcap : cells ≤ R.cells ∧ slots ≤ R.slots) (kk : ∀ (H1 : Heap) (locs1 : List Loc), lb_W G s qr.2 H1 locs1 → W p l e R s m args below meth c H1 locs1 cells slots Q (F0 m (pc + 3) ls (.int qr.1 :: rest))) : W p l e R s m args below meth c H locs cells slots Q (F0 m pc ls (.int x1 :: .ref (lb_ad G 0) :: rest)) :=
  lb_goI hW (lb_runV (As := [.int x1]) X hW (m_X8_years l G σ x1 qr h) (n := 1) ⟨qw_517, qw_43, qw_520, by decide +kernel⟩ hR qw_518 qw_519 lb_is0 rfl hls hrest d hcap) kk
theorem rc_L_60 {p : Program} {l : Launch} {e : Env} {R : Room} {s : State} {m : MethodId} {args : Array Value} {below : List Frame} {meth : Method} {c : Code} {H : Heap} {locs : List Loc} {cells slots : Nat} {Q : State → Prop} {cc : ByteArray} {pc nL : Nat} {ls : Array Slot} {rest : List Value} {G : lb_G} {σ : lb_Mem} {ret : Option FieldType} (X : lb_C G p s m args meth c cc nL RL ret) (hW : lb_W G s σ H locs) {x1 : Int32} {qr : (Int32 × lb_Mem)} (h : f_X9_years x1 σ = some qr) (hR : lb_room rmX9_years R 2) (hls : ls.size = nL) (hrest : (rest.map fun v => v.category).sum ≤ 8) (d : decode cc pc = .ok (.invokevirtual 60, 3)) (hcap : cells ≤ R.cells ∧ slots ≤ R.slots) (kk : ∀ (H1 : Heap) (locs1 : List Loc), lb_W G s qr.2 H1 locs1 → W p l e R s m args below meth c H1 locs1 cells slots Q (F0 m (pc + 3) ls (.int qr.1 :: rest))) : W p l e R s m args below meth c H locs cells slots Q (F0 m pc ls (.int x1 :: .ref (lb_ad G 53) :: rest)) :=
  lb_goI hW (lb_runV (As := [.int x1]) X hW (m_X9_years l G σ x1 qr h) (n := 1) ⟨qw_930, qw_52, qw_933, by decide +kernel⟩ hR qw_931 qw_932 lb_is53 rfl hls hrest d hcap) kk
def lb_st_years (Rel : lb_Mem → Prop) : Prop := ∀ (σ : lb_Mem) (x1 : Int32), Rel σ → ∃ (r : Int32) (σ1 σ2 : lb_Mem), f_X8_years x1 σ = some (r, σ1) ∧ f_X9_years x1 σ1 = some (r, σ2) ∧ Rel σ2
set_option maxRecDepth 20000 in
theorem lc_518 {p : Program} {l : Launch} {e : Env} {s : State} {m : MethodId} {below : List Frame} {meth : Method} {c : Code} {G : lb_G} {b L k : Nat} {xs : Nat → Int32} (X : lb_C G p s m #[Value.ref b] meth c cL_law 4 RL (some .boolean)) (hX : va_X b L xs s s.heap) (hbl : b < s.heap.size) (hbA : ¬ lb_A G b) (hk : k + 5 < L) (hL : L ≤ 3072) {Rel : lb_Mem → Prop} (hst : lb_st_years Rel) (hnx : ∀ (σ : lb_Mem) (H : Heap) (locs : List Loc) (ls : Array Slot), Rel σ → lb_W G s σ H locs → lv_has ls 4 [(0, .ref b), (1, .ref (lb_ad G 0)), (2, .ref (lb_ad G 53)), (3, .int (nI k))] → W p l e room_1 s m #[Value.ref b] below meth c H locs 62 739 (lw_Z below #[Value.ref b] s) (F0 m 1340 ls [])) : ∀ (σ : lb_Mem) (H : Heap) (locs : List Loc) (ls : Array Slot), Rel σ → lb_W G s σ H locs → lv_has ls 4 [(0, .ref b), (1, .ref (lb_ad G 0)), (2, .ref (lb_ad G 53)), (3, .int (nI k))] → W p l e room_1 s m #[Value.ref b] below meth c H locs 62 739 (lw_Z below #[Value.ref b] s) (F0 m 518 ls []) := by
  have hx := X.1
  have hb := X.2.1
  obtain ⟨i0, i1, i2, i3, i4, i5⟩ := lb_scr hk hL
  intro σ H locs ls hr hW hl
  obtain ⟨r, σ1, σ2, h1, h2, hr2⟩ := hst σ (xs (nI k + 1).toNatClampNeg) hr
  refine lv_aload_n hx hb dL_law_518 rfl (lv_at hl 1 rfl) ?_
  refine lv_aload_n hx hb dL_law_519 rfl (lv_at hl 0 rfl) ?_
  refine lv_iload_n hx hb dL_law_520 rfl (lv_at hl 3 rfl) ?_
  refine lv_iconst (v := 1) hx hb dL_law_521 rfl ?_
  refine lv_iadd hx hb dL_law_522 ?_
  refine va_sld hx hb hX hbl hbA hW.2 i1 dL_law_523 ?_
  refine rc_L_57 X hW h1 ⟨⟨rfl, rfl⟩, Nat.le_of_ble_eq_true rfl, Nat.le_of_ble_eq_true rfl⟩ hl.1 (Nat.le_of_ble_eq_true rfl) dL_law_524 ⟨Nat.le_of_ble_eq_true rfl, Nat.le_of_ble_eq_true rfl⟩ (fun H locs hW => ?_)
  refine lv_aload_n hx hb dL_law_527 rfl (lv_at hl 2 rfl) ?_
  refine lv_aload_n hx hb dL_law_528 rfl (lv_at hl 0 rfl) ?_
  refine lv_iload_n hx hb dL_law_529 rfl (lv_at hl 3 rfl) ?_
  refine lv_iconst (v := 1) hx hb dL_law_530 rfl ?_
  refine lv_iadd hx hb dL_law_531 ?_
  refine va_sld hx hb hX hbl hbA hW.2 i1 dL_law_532 ?_
  refine rc_L_60 X hW h2 ⟨⟨rfl, rfl⟩, Nat.le_of_ble_eq_true rfl, Nat.le_of_ble_eq_true rfl⟩ hl.1 (Nat.le_of_ble_eq_true rfl) dL_law_533 ⟨Nat.le_of_ble_eq_true rfl, Nat.le_of_ble_eq_true rfl⟩ (fun H locs hW => ?_)
  refine lv_icmp_eq (tgt := 1340) hx hb dL_law_536 (by decide) (fun _ => ?_) (fun z => absurd rfl z)
  exact hnx σ2 _ _ _ hr2 hW (lv_sub hl [0, 1, 2, 3] rfl)
theorem rc_L_61 {p : Program} {l : Launch} {e : Env} {R : Room} {s : State} {m : MethodId} {args : Array Value} {below : List Frame} {meth : Method} {c : Code} {H : Heap} {locs : List Loc} {cells slots : Nat} {Q : State → Prop} {cc : ByteArray} {pc nL : Nat} {ls : Array Slot} {rest : List Value} {G : lb_G} {σ : lb_Mem} {ret : Option FieldType} (X : lb_C G p s m args meth c cc nL RL ret) (hW : lb_W G s σ H locs) {x1 : Int32} {x2 : Int32} {x3 : Int32} {qr : (Int32 × lb_Mem)} (h : f_X8_personThen x1 x2 x3 σ = some qr) (hR : lb_room rmX8_personThen R 5) (hls : ls.size = nL) (hrest : (rest.map fun v => v.category).sum ≤ 8) (d : decode cc pc = .ok (.invokevirtual 61, 3)) (hcap : cells ≤ R.cells ∧ slots ≤ R.slots) (kk : ∀ (H1 : Heap) (locs1 : List Loc), lb_W G s qr.2 H1 locs1 → W p l e R s m args below meth c H1 locs1 cells slots Q (F0 m (pc + 3) ls (.int qr.1 :: rest))) : W p l e R s m args below meth c H locs cells slots Q (F0 m pc ls (.int x3 :: .int x2 :: .int x1 :: .ref (lb_ad G 0) :: rest)) :=
  lb_goI hW (lb_runV (As := [.int x1, .int x2, .int x3]) X hW (m_X8_personThen l G σ x1 x2 x3 qr h) (n := 3) ⟨qw_526, qw_43, qw_529, by decide +kernel⟩ hR qw_527 qw_528 lb_is0 rfl hls hrest d hcap) kk
theorem rc_L_64 {p : Program} {l : Launch} {e : Env} {R : Room} {s : State} {m : MethodId} {args : Array Value} {below : List Frame} {meth : Method} {c : Code} {H : Heap} {locs : List Loc} {cells slots : Nat} {Q : State → Prop} {cc : ByteArray} {pc nL : Nat} {ls : Array Slot} {rest : List Value} {G : lb_G} {σ : lb_Mem} {ret : Option FieldType} (X : lb_C G p s m args meth c cc nL RL ret) (hW : lb_W G s σ H locs) {x1 : Int32} {x2 : Int32} {x3 : Int32} {qr : (Int32 × lb_Mem)} (h : f_X9_personThen x1 x2 x3 σ = some qr) (hR : lb_room rmX9_personThen R 5) (hls : ls.size = nL) (hrest : (rest.map fun v => v.category).sum ≤ 8) (d : decode cc pc = .ok (.invokevirtual 64, 3)) (hcap : cells ≤ R.cells ∧ slots ≤ R.slots) (kk : ∀ (H1 : Heap) (locs1 : List Loc), lb_W G s qr.2 H1 locs1 → W p l e R s m args below meth c H1 locs1 cells slots Q (F0 m (pc + 3) ls (.int qr.1 :: rest))) : W p l e R s m args below meth c H locs cells slots Q (F0 m pc ls (.int x3 :: .int x2 :: .int x1 :: .ref (lb_ad G 53) :: rest)) :=
  lb_goI hW (lb_runV (As := [.int x1, .int x2, .int x3]) X hW (m_X9_personThen l G σ x1 x2 x3 qr h) (n := 3) ⟨qw_937, qw_52, qw_940, by decide +kernel⟩ hR qw_938 qw_939 lb_is53 rfl hls hrest d hcap) kk
def lb_st_personThen (Rel : lb_Mem → Prop) : Prop := ∀ (σ : lb_Mem) (x1 : Int32) (x2 : Int32) (x3 : Int32), Rel σ → ∃ (r : Int32) (σ1 σ2 : lb_Mem), f_X8_personThen x1 x2 x3 σ = some (r, σ1) ∧ f_X9_personThen x1 x2 x3 σ1 = some (r, σ2) ∧ Rel σ2
set_option maxRecDepth 20000 in
theorem lc_541 {p : Program} {l : Launch} {e : Env} {s : State} {m : MethodId} {below : List Frame} {meth : Method} {c : Code} {G : lb_G} {b L k : Nat} {xs : Nat → Int32} (X : lb_C G p s m #[Value.ref b] meth c cL_law 4 RL (some .boolean)) (hX : va_X b L xs s s.heap) (hbl : b < s.heap.size) (hbA : ¬ lb_A G b) (hk : k + 5 < L) (hL : L ≤ 3072) {Rel : lb_Mem → Prop} (hst : lb_st_personThen Rel) (hnx : ∀ (σ : lb_Mem) (H : Heap) (locs : List Loc) (ls : Array Slot), Rel σ → lb_W G s σ H locs → lv_has ls 4 [(0, .ref b), (1, .ref (lb_ad G 0)), (2, .ref (lb_ad G 53)), (3, .int (nI k))] → W p l e room_1 s m #[Value.ref b] below meth c H locs 62 739 (lw_Z below #[Value.ref b] s) (F0 m 1340 ls [])) : ∀ (σ : lb_Mem) (H : Heap) (locs : List Loc) (ls : Array Slot), Rel σ → lb_W G s σ H locs → lv_has ls 4 [(0, .ref b), (1, .ref (lb_ad G 0)), (2, .ref (lb_ad G 53)), (3, .int (nI k))] → W p l e room_1 s m #[Value.ref b] below meth c H locs 62 739 (lw_Z below #[Value.ref b] s) (F0 m 541 ls []) := by
  have hx := X.1
  have hb := X.2.1
  obtain ⟨i0, i1, i2, i3, i4, i5⟩ := lb_scr hk hL
  intro σ H locs ls hr hW hl
  obtain ⟨r, σ1, σ2, h1, h2, hr2⟩ := hst σ (xs (nI k + 1).toNatClampNeg) (xs (nI k + 2).toNatClampNeg) (xs (nI k + 3).toNatClampNeg) hr
  refine lv_aload_n hx hb dL_law_541 rfl (lv_at hl 1 rfl) ?_
  refine lv_aload_n hx hb dL_law_542 rfl (lv_at hl 0 rfl) ?_
  refine lv_iload_n hx hb dL_law_543 rfl (lv_at hl 3 rfl) ?_
  refine lv_iconst (v := 1) hx hb dL_law_544 rfl ?_
  refine lv_iadd hx hb dL_law_545 ?_
  refine va_sld hx hb hX hbl hbA hW.2 i1 dL_law_546 ?_
  refine lv_aload_n hx hb dL_law_547 rfl (lv_at hl 0 rfl) ?_
  refine lv_iload_n hx hb dL_law_548 rfl (lv_at hl 3 rfl) ?_
  refine lv_iconst (v := 2) hx hb dL_law_549 rfl ?_
  refine lv_iadd hx hb dL_law_550 ?_
  refine va_sld hx hb hX hbl hbA hW.2 i2 dL_law_551 ?_
  refine lv_aload_n hx hb dL_law_552 rfl (lv_at hl 0 rfl) ?_
  refine lv_iload_n hx hb dL_law_553 rfl (lv_at hl 3 rfl) ?_
  refine lv_iconst (v := 3) hx hb dL_law_554 rfl ?_
  refine lv_iadd hx hb dL_law_555 ?_
  refine va_sld hx hb hX hbl hbA hW.2 i3 dL_law_556 ?_
  refine rc_L_61 X hW h1 ⟨⟨rfl, rfl⟩, Nat.le_of_ble_eq_true rfl, Nat.le_of_ble_eq_true rfl⟩ hl.1 (Nat.le_of_ble_eq_true rfl) dL_law_557 ⟨Nat.le_of_ble_eq_true rfl, Nat.le_of_ble_eq_true rfl⟩ (fun H locs hW => ?_)
  refine lv_aload_n hx hb dL_law_560 rfl (lv_at hl 2 rfl) ?_
  refine lv_aload_n hx hb dL_law_561 rfl (lv_at hl 0 rfl) ?_
  refine lv_iload_n hx hb dL_law_562 rfl (lv_at hl 3 rfl) ?_
  refine lv_iconst (v := 1) hx hb dL_law_563 rfl ?_
  refine lv_iadd hx hb dL_law_564 ?_
  refine va_sld hx hb hX hbl hbA hW.2 i1 dL_law_565 ?_
  refine lv_aload_n hx hb dL_law_566 rfl (lv_at hl 0 rfl) ?_
  refine lv_iload_n hx hb dL_law_567 rfl (lv_at hl 3 rfl) ?_
  refine lv_iconst (v := 2) hx hb dL_law_568 rfl ?_
  refine lv_iadd hx hb dL_law_569 ?_
  refine va_sld hx hb hX hbl hbA hW.2 i2 dL_law_570 ?_
  refine lv_aload_n hx hb dL_law_571 rfl (lv_at hl 0 rfl) ?_
  refine lv_iload_n hx hb dL_law_572 rfl (lv_at hl 3 rfl) ?_
  refine lv_iconst (v := 3) hx hb dL_law_573 rfl ?_
  refine lv_iadd hx hb dL_law_574 ?_
  refine va_sld hx hb hX hbl hbA hW.2 i3 dL_law_575 ?_
  refine rc_L_64 X hW h2 ⟨⟨rfl, rfl⟩, Nat.le_of_ble_eq_true rfl, Nat.le_of_ble_eq_true rfl⟩ hl.1 (Nat.le_of_ble_eq_true rfl) dL_law_576 ⟨Nat.le_of_ble_eq_true rfl, Nat.le_of_ble_eq_true rfl⟩ (fun H locs hW => ?_)
  refine lv_icmp_eq (tgt := 1340) hx hb dL_law_579 (by decide) (fun _ => ?_) (fun z => absurd rfl z)
  exact hnx σ2 _ _ _ hr2 hW (lv_sub hl [0, 1, 2, 3] rfl)
theorem rc_L_65 {p : Program} {l : Launch} {e : Env} {R : Room} {s : State} {m : MethodId} {args : Array Value} {below : List Frame} {meth : Method} {c : Code} {H : Heap} {locs : List Loc} {cells slots : Nat} {Q : State → Prop} {cc : ByteArray} {pc nL : Nat} {ls : Array Slot} {rest : List Value} {G : lb_G} {σ : lb_Mem} {ret : Option FieldType} (X : lb_C G p s m args meth c cc nL RL ret) (hW : lb_W G s σ H locs) {x1 : Int32} {x2 : Int32} {qr : (Int32 × lb_Mem)} (h : f_X8_fullThen x1 x2 σ = some qr) (hR : lb_room rmX8_fullThen R 4) (hls : ls.size = nL) (hrest : (rest.map fun v => v.category).sum ≤ 8) (d : decode cc pc = .ok (.invokevirtual 65, 3)) (hcap : cells ≤ R.cells ∧ slots ≤ R.slots) (kk : ∀ (H1 : Heap) (locs1 : List Loc), lb_W G s qr.2 H1 locs1 → W p l e R s m args below meth c H1 locs1 cells slots Q (F0 m (pc + 3) ls (.int qr.1 :: rest))) : W p l e R s m args below meth c H locs cells slots Q (F0 m pc ls (.int x2 :: .int x1 :: .ref (lb_ad G 0) :: rest)) :=
  lb_goI hW (lb_runV (As := [.int x1, .int x2]) X hW (m_X8_fullThen l G σ x1 x2 qr h) (n := 2) ⟨qw_531, qw_43, qw_534, by decide +kernel⟩ hR qw_532 qw_533 lb_is0 rfl hls hrest d hcap) kk
theorem rc_L_68 {p : Program} {l : Launch} {e : Env} {R : Room} {s : State} {m : MethodId} {args : Array Value} {below : List Frame} {meth : Method} {c : Code} {H : Heap} {locs : List Loc} {cells slots : Nat} {Q : State → Prop} {cc : ByteArray} {pc nL : Nat} {ls : Array Slot} {rest : List Value} {G : lb_G} {σ : lb_Mem} {ret : Option FieldType} (X : lb_C G p s m args meth c cc nL RL ret) (hW : lb_W G s σ H locs) {x1 : Int32} {x2 : Int32} {qr : (Int32 × lb_Mem)} (h : f_X9_fullThen x1 x2 σ = some qr) (hR : lb_room rmX9_fullThen R 4) (hls : ls.size = nL) (hrest : (rest.map fun v => v.category).sum ≤ 8) (d : decode cc pc = .ok (.invokevirtual 68, 3)) (hcap : cells ≤ R.cells ∧ slots ≤ R.slots) (kk : ∀ (H1 : Heap) (locs1 : List Loc), lb_W G s qr.2 H1 locs1 → W p l e R s m args below meth c H1 locs1 cells slots Q (F0 m (pc + 3) ls (.int qr.1 :: rest))) : W p l e R s m args below meth c H locs cells slots Q (F0 m pc ls (.int x2 :: .int x1 :: .ref (lb_ad G 53) :: rest)) :=
  lb_goI hW (lb_runV (As := [.int x1, .int x2]) X hW (m_X9_fullThen l G σ x1 x2 qr h) (n := 2) ⟨qw_945, qw_52, qw_948, by decide +kernel⟩ hR qw_946 qw_947 lb_is53 rfl hls hrest d hcap) kk
def lb_st_fullThen (Rel : lb_Mem → Prop) : Prop := ∀ (σ : lb_Mem) (x1 : Int32) (x2 : Int32), Rel σ → ∃ (r : Int32) (σ1 σ2 : lb_Mem), f_X8_fullThen x1 x2 σ = some (r, σ1) ∧ f_X9_fullThen x1 x2 σ1 = some (r, σ2) ∧ Rel σ2
set_option maxRecDepth 20000 in
theorem lc_584 {p : Program} {l : Launch} {e : Env} {s : State} {m : MethodId} {below : List Frame} {meth : Method} {c : Code} {G : lb_G} {b L k : Nat} {xs : Nat → Int32} (X : lb_C G p s m #[Value.ref b] meth c cL_law 4 RL (some .boolean)) (hX : va_X b L xs s s.heap) (hbl : b < s.heap.size) (hbA : ¬ lb_A G b) (hk : k + 5 < L) (hL : L ≤ 3072) {Rel : lb_Mem → Prop} (hst : lb_st_fullThen Rel) (hnx : ∀ (σ : lb_Mem) (H : Heap) (locs : List Loc) (ls : Array Slot), Rel σ → lb_W G s σ H locs → lv_has ls 4 [(0, .ref b), (1, .ref (lb_ad G 0)), (2, .ref (lb_ad G 53)), (3, .int (nI k))] → W p l e room_1 s m #[Value.ref b] below meth c H locs 62 739 (lw_Z below #[Value.ref b] s) (F0 m 1340 ls [])) : ∀ (σ : lb_Mem) (H : Heap) (locs : List Loc) (ls : Array Slot), Rel σ → lb_W G s σ H locs → lv_has ls 4 [(0, .ref b), (1, .ref (lb_ad G 0)), (2, .ref (lb_ad G 53)), (3, .int (nI k))] → W p l e room_1 s m #[Value.ref b] below meth c H locs 62 739 (lw_Z below #[Value.ref b] s) (F0 m 584 ls []) := by
  have hx := X.1
  have hb := X.2.1
  obtain ⟨i0, i1, i2, i3, i4, i5⟩ := lb_scr hk hL
  intro σ H locs ls hr hW hl
  obtain ⟨r, σ1, σ2, h1, h2, hr2⟩ := hst σ (xs (nI k + 1).toNatClampNeg) (xs (nI k + 2).toNatClampNeg) hr
  refine lv_aload_n hx hb dL_law_584 rfl (lv_at hl 1 rfl) ?_
  refine lv_aload_n hx hb dL_law_585 rfl (lv_at hl 0 rfl) ?_
  refine lv_iload_n hx hb dL_law_586 rfl (lv_at hl 3 rfl) ?_
  refine lv_iconst (v := 1) hx hb dL_law_587 rfl ?_
  refine lv_iadd hx hb dL_law_588 ?_
  refine va_sld hx hb hX hbl hbA hW.2 i1 dL_law_589 ?_
  refine lv_aload_n hx hb dL_law_590 rfl (lv_at hl 0 rfl) ?_
  refine lv_iload_n hx hb dL_law_591 rfl (lv_at hl 3 rfl) ?_
  refine lv_iconst (v := 2) hx hb dL_law_592 rfl ?_
  refine lv_iadd hx hb dL_law_593 ?_
  refine va_sld hx hb hX hbl hbA hW.2 i2 dL_law_594 ?_
  refine rc_L_65 X hW h1 ⟨⟨rfl, rfl⟩, Nat.le_of_ble_eq_true rfl, Nat.le_of_ble_eq_true rfl⟩ hl.1 (Nat.le_of_ble_eq_true rfl) dL_law_595 ⟨Nat.le_of_ble_eq_true rfl, Nat.le_of_ble_eq_true rfl⟩ (fun H locs hW => ?_)
  refine lv_aload_n hx hb dL_law_598 rfl (lv_at hl 2 rfl) ?_
  refine lv_aload_n hx hb dL_law_599 rfl (lv_at hl 0 rfl) ?_
  refine lv_iload_n hx hb dL_law_600 rfl (lv_at hl 3 rfl) ?_
  refine lv_iconst (v := 1) hx hb dL_law_601 rfl ?_
  refine lv_iadd hx hb dL_law_602 ?_
  refine va_sld hx hb hX hbl hbA hW.2 i1 dL_law_603 ?_
  refine lv_aload_n hx hb dL_law_604 rfl (lv_at hl 0 rfl) ?_
  refine lv_iload_n hx hb dL_law_605 rfl (lv_at hl 3 rfl) ?_
  refine lv_iconst (v := 2) hx hb dL_law_606 rfl ?_
  refine lv_iadd hx hb dL_law_607 ?_
  refine va_sld hx hb hX hbl hbA hW.2 i2 dL_law_608 ?_
  refine rc_L_68 X hW h2 ⟨⟨rfl, rfl⟩, Nat.le_of_ble_eq_true rfl, Nat.le_of_ble_eq_true rfl⟩ hl.1 (Nat.le_of_ble_eq_true rfl) dL_law_609 ⟨Nat.le_of_ble_eq_true rfl, Nat.le_of_ble_eq_true rfl⟩ (fun H locs hW => ?_)
  refine lv_icmp_eq (tgt := 1340) hx hb dL_law_612 (by decide) (fun _ => ?_) (fun z => absurd rfl z)
  exact hnx σ2 _ _ _ hr2 hW (lv_sub hl [0, 1, 2, 3] rfl)
theorem rc_L_69 {p : Program} {l : Launch} {e : Env} {R : Room} {s : State} {m : MethodId} {args : Array Value} {below : List Frame} {meth : Method} {c : Code} {H : Heap} {locs : List Loc} {cells slots : Nat} {Q : State → Prop} {cc : ByteArray} {pc nL : Nat} {ls : Array Slot} {rest : List Value} {G : lb_G} {σ : lb_Mem} {ret : Option FieldType} (X : lb_C G p s m args meth c cc nL RL ret) (hW : lb_W G s σ H locs) {x1 : Int32} {qr : (Int32 × lb_Mem)} (h : f_X8_graceThen x1 σ = some qr) (hR : lb_room rmX8_graceThen R 3) (hls : ls.size = nL) (hrest : (rest.map fun v => v.category).sum ≤ 8) (d : decode cc pc = .ok (.invokevirtual 69, 3)) (hcap : cells ≤ R.cells ∧ slots ≤ R.slots) (kk : ∀ (H1 : Heap) (locs1 : List Loc), lb_W G s qr.2 H1 locs1 → W p l e R s m args below meth c H1 locs1 cells slots Q (F0 m (pc + 3) ls (.int qr.1 :: rest))) : W p l e R s m args below meth c H locs cells slots Q (F0 m pc ls (.int x1 :: .ref (lb_ad G 0) :: rest)) :=
  lb_goI hW (lb_runV (As := [.int x1]) X hW (m_X8_graceThen l G σ x1 qr h) (n := 1) ⟨qw_535, qw_43, qw_538, by decide +kernel⟩ hR qw_536 qw_537 lb_is0 rfl hls hrest d hcap) kk
theorem rc_L_72 {p : Program} {l : Launch} {e : Env} {R : Room} {s : State} {m : MethodId} {args : Array Value} {below : List Frame} {meth : Method} {c : Code} {H : Heap} {locs : List Loc} {cells slots : Nat} {Q : State → Prop} {cc : ByteArray} {pc nL : Nat} {ls : Array Slot} {rest : List Value} {G : lb_G} {σ : lb_Mem} {ret : Option FieldType} (X : lb_C G p s m args meth c cc nL RL ret) (hW : lb_W G s σ H locs) {x1 : Int32} {qr : (Int32 × lb_Mem)} (h : f_X9_graceThen x1 σ = some qr) (hR : lb_room rmX9_graceThen R 3) (hls : ls.size = nL) (hrest : (rest.map fun v => v.category).sum ≤ 8) (d : decode cc pc = .ok (.invokevirtual 72, 3)) (hcap : cells ≤ R.cells ∧ slots ≤ R.slots) (kk : ∀ (H1 : Heap) (locs1 : List Loc), lb_W G s qr.2 H1 locs1 → W p l e R s m args below meth c H1 locs1 cells slots Q (F0 m (pc + 3) ls (.int qr.1 :: rest))) : W p l e R s m args below meth c H locs cells slots Q (F0 m pc ls (.int x1 :: .ref (lb_ad G 53) :: rest)) :=
  lb_goI hW (lb_runV (As := [.int x1]) X hW (m_X9_graceThen l G σ x1 qr h) (n := 1) ⟨qw_949, qw_52, qw_952, by decide +kernel⟩ hR qw_950 qw_951 lb_is53 rfl hls hrest d hcap) kk
def lb_st_graceThen (Rel : lb_Mem → Prop) : Prop := ∀ (σ : lb_Mem) (x1 : Int32), Rel σ → ∃ (r : Int32) (σ1 σ2 : lb_Mem), f_X8_graceThen x1 σ = some (r, σ1) ∧ f_X9_graceThen x1 σ1 = some (r, σ2) ∧ Rel σ2
set_option maxRecDepth 20000 in
theorem lc_617 {p : Program} {l : Launch} {e : Env} {s : State} {m : MethodId} {below : List Frame} {meth : Method} {c : Code} {G : lb_G} {b L k : Nat} {xs : Nat → Int32} (X : lb_C G p s m #[Value.ref b] meth c cL_law 4 RL (some .boolean)) (hX : va_X b L xs s s.heap) (hbl : b < s.heap.size) (hbA : ¬ lb_A G b) (hk : k + 5 < L) (hL : L ≤ 3072) {Rel : lb_Mem → Prop} (hst : lb_st_graceThen Rel) (hnx : ∀ (σ : lb_Mem) (H : Heap) (locs : List Loc) (ls : Array Slot), Rel σ → lb_W G s σ H locs → lv_has ls 4 [(0, .ref b), (1, .ref (lb_ad G 0)), (2, .ref (lb_ad G 53)), (3, .int (nI k))] → W p l e room_1 s m #[Value.ref b] below meth c H locs 62 739 (lw_Z below #[Value.ref b] s) (F0 m 1340 ls [])) : ∀ (σ : lb_Mem) (H : Heap) (locs : List Loc) (ls : Array Slot), Rel σ → lb_W G s σ H locs → lv_has ls 4 [(0, .ref b), (1, .ref (lb_ad G 0)), (2, .ref (lb_ad G 53)), (3, .int (nI k))] → W p l e room_1 s m #[Value.ref b] below meth c H locs 62 739 (lw_Z below #[Value.ref b] s) (F0 m 617 ls []) := by
  have hx := X.1
  have hb := X.2.1
  obtain ⟨i0, i1, i2, i3, i4, i5⟩ := lb_scr hk hL
  intro σ H locs ls hr hW hl
  obtain ⟨r, σ1, σ2, h1, h2, hr2⟩ := hst σ (xs (nI k + 1).toNatClampNeg) hr
  refine lv_aload_n hx hb dL_law_617 rfl (lv_at hl 1 rfl) ?_
  refine lv_aload_n hx hb dL_law_618 rfl (lv_at hl 0 rfl) ?_
  refine lv_iload_n hx hb dL_law_619 rfl (lv_at hl 3 rfl) ?_
  refine lv_iconst (v := 1) hx hb dL_law_620 rfl ?_
  refine lv_iadd hx hb dL_law_621 ?_
  refine va_sld hx hb hX hbl hbA hW.2 i1 dL_law_622 ?_
  refine rc_L_69 X hW h1 ⟨⟨rfl, rfl⟩, Nat.le_of_ble_eq_true rfl, Nat.le_of_ble_eq_true rfl⟩ hl.1 (Nat.le_of_ble_eq_true rfl) dL_law_623 ⟨Nat.le_of_ble_eq_true rfl, Nat.le_of_ble_eq_true rfl⟩ (fun H locs hW => ?_)
  refine lv_aload_n hx hb dL_law_626 rfl (lv_at hl 2 rfl) ?_
  refine lv_aload_n hx hb dL_law_627 rfl (lv_at hl 0 rfl) ?_
  refine lv_iload_n hx hb dL_law_628 rfl (lv_at hl 3 rfl) ?_
  refine lv_iconst (v := 1) hx hb dL_law_629 rfl ?_
  refine lv_iadd hx hb dL_law_630 ?_
  refine va_sld hx hb hX hbl hbA hW.2 i1 dL_law_631 ?_
  refine rc_L_72 X hW h2 ⟨⟨rfl, rfl⟩, Nat.le_of_ble_eq_true rfl, Nat.le_of_ble_eq_true rfl⟩ hl.1 (Nat.le_of_ble_eq_true rfl) dL_law_632 ⟨Nat.le_of_ble_eq_true rfl, Nat.le_of_ble_eq_true rfl⟩ (fun H locs hW => ?_)
  refine lv_icmp_eq (tgt := 1340) hx hb dL_law_635 (by decide) (fun _ => ?_) (fun z => absurd rfl z)
  exact hnx σ2 _ _ _ hr2 hW (lv_sub hl [0, 1, 2, 3] rfl)
theorem rc_L_73 {p : Program} {l : Launch} {e : Env} {R : Room} {s : State} {m : MethodId} {args : Array Value} {below : List Frame} {meth : Method} {c : Code} {H : Heap} {locs : List Loc} {cells slots : Nat} {Q : State → Prop} {cc : ByteArray} {pc nL : Nat} {ls : Array Slot} {rest : List Value} {G : lb_G} {σ : lb_Mem} {ret : Option FieldType} (X : lb_C G p s m args meth c cc nL RL ret) (hW : lb_W G s σ H locs) {x1 : Int32} {qr : (Int32 × lb_Mem)} (h : f_X8_graceless x1 σ = some qr) (hR : lb_room rmX8_graceless R 4) (hls : ls.size = nL) (hrest : (rest.map fun v => v.category).sum ≤ 8) (d : decode cc pc = .ok (.invokevirtual 73, 3)) (hcap : cells ≤ R.cells ∧ slots ≤ R.slots) (kk : ∀ (H1 : Heap) (locs1 : List Loc), lb_W G s qr.2 H1 locs1 → W p l e R s m args below meth c H1 locs1 cells slots Q (F0 m (pc + 3) ls (.int qr.1 :: rest))) : W p l e R s m args below meth c H locs cells slots Q (F0 m pc ls (.int x1 :: .ref (lb_ad G 0) :: rest)) :=
  lb_goI hW (lb_runV (As := [.int x1]) X hW (m_X8_graceless l G σ x1 qr h) (n := 1) ⟨qw_543, qw_43, qw_546, by decide +kernel⟩ hR qw_544 qw_545 lb_is0 rfl hls hrest d hcap) kk
theorem rc_L_76 {p : Program} {l : Launch} {e : Env} {R : Room} {s : State} {m : MethodId} {args : Array Value} {below : List Frame} {meth : Method} {c : Code} {H : Heap} {locs : List Loc} {cells slots : Nat} {Q : State → Prop} {cc : ByteArray} {pc nL : Nat} {ls : Array Slot} {rest : List Value} {G : lb_G} {σ : lb_Mem} {ret : Option FieldType} (X : lb_C G p s m args meth c cc nL RL ret) (hW : lb_W G s σ H locs) {x1 : Int32} {qr : (Int32 × lb_Mem)} (h : f_X9_graceless x1 σ = some qr) (hR : lb_room rmX9_graceless R 2) (hls : ls.size = nL) (hrest : (rest.map fun v => v.category).sum ≤ 8) (d : decode cc pc = .ok (.invokevirtual 76, 3)) (hcap : cells ≤ R.cells ∧ slots ≤ R.slots) (kk : ∀ (H1 : Heap) (locs1 : List Loc), lb_W G s qr.2 H1 locs1 → W p l e R s m args below meth c H1 locs1 cells slots Q (F0 m (pc + 3) ls (.int qr.1 :: rest))) : W p l e R s m args below meth c H locs cells slots Q (F0 m pc ls (.int x1 :: .ref (lb_ad G 53) :: rest)) :=
  lb_goI hW (lb_runV (As := [.int x1]) X hW (m_X9_graceless l G σ x1 qr h) (n := 1) ⟨qw_953, qw_52, qw_956, by decide +kernel⟩ hR qw_954 qw_955 lb_is53 rfl hls hrest d hcap) kk
def lb_st_graceless (Rel : lb_Mem → Prop) : Prop := ∀ (σ : lb_Mem) (x1 : Int32), Rel σ → ∃ (r : Int32) (σ1 σ2 : lb_Mem), f_X8_graceless x1 σ = some (r, σ1) ∧ f_X9_graceless x1 σ1 = some (r, σ2) ∧ Rel σ2
set_option maxRecDepth 20000 in
theorem lc_640 {p : Program} {l : Launch} {e : Env} {s : State} {m : MethodId} {below : List Frame} {meth : Method} {c : Code} {G : lb_G} {b L k : Nat} {xs : Nat → Int32} (X : lb_C G p s m #[Value.ref b] meth c cL_law 4 RL (some .boolean)) (hX : va_X b L xs s s.heap) (hbl : b < s.heap.size) (hbA : ¬ lb_A G b) (hk : k + 5 < L) (hL : L ≤ 3072) {Rel : lb_Mem → Prop} (hst : lb_st_graceless Rel) (hnx : ∀ (σ : lb_Mem) (H : Heap) (locs : List Loc) (ls : Array Slot), Rel σ → lb_W G s σ H locs → lv_has ls 4 [(0, .ref b), (1, .ref (lb_ad G 0)), (2, .ref (lb_ad G 53)), (3, .int (nI k))] → W p l e room_1 s m #[Value.ref b] below meth c H locs 62 739 (lw_Z below #[Value.ref b] s) (F0 m 1340 ls [])) : ∀ (σ : lb_Mem) (H : Heap) (locs : List Loc) (ls : Array Slot), Rel σ → lb_W G s σ H locs → lv_has ls 4 [(0, .ref b), (1, .ref (lb_ad G 0)), (2, .ref (lb_ad G 53)), (3, .int (nI k))] → W p l e room_1 s m #[Value.ref b] below meth c H locs 62 739 (lw_Z below #[Value.ref b] s) (F0 m 640 ls []) := by
  have hx := X.1
  have hb := X.2.1
  obtain ⟨i0, i1, i2, i3, i4, i5⟩ := lb_scr hk hL
  intro σ H locs ls hr hW hl
  obtain ⟨r, σ1, σ2, h1, h2, hr2⟩ := hst σ (xs (nI k + 1).toNatClampNeg) hr
  refine lv_aload_n hx hb dL_law_640 rfl (lv_at hl 1 rfl) ?_
  refine lv_aload_n hx hb dL_law_641 rfl (lv_at hl 0 rfl) ?_
  refine lv_iload_n hx hb dL_law_642 rfl (lv_at hl 3 rfl) ?_
  refine lv_iconst (v := 1) hx hb dL_law_643 rfl ?_
  refine lv_iadd hx hb dL_law_644 ?_
  refine va_sld hx hb hX hbl hbA hW.2 i1 dL_law_645 ?_
  refine rc_L_73 X hW h1 ⟨⟨rfl, rfl⟩, Nat.le_of_ble_eq_true rfl, Nat.le_of_ble_eq_true rfl⟩ hl.1 (Nat.le_of_ble_eq_true rfl) dL_law_646 ⟨Nat.le_of_ble_eq_true rfl, Nat.le_of_ble_eq_true rfl⟩ (fun H locs hW => ?_)
  refine lv_aload_n hx hb dL_law_649 rfl (lv_at hl 2 rfl) ?_
  refine lv_aload_n hx hb dL_law_650 rfl (lv_at hl 0 rfl) ?_
  refine lv_iload_n hx hb dL_law_651 rfl (lv_at hl 3 rfl) ?_
  refine lv_iconst (v := 1) hx hb dL_law_652 rfl ?_
  refine lv_iadd hx hb dL_law_653 ?_
  refine va_sld hx hb hX hbl hbA hW.2 i1 dL_law_654 ?_
  refine rc_L_76 X hW h2 ⟨⟨rfl, rfl⟩, Nat.le_of_ble_eq_true rfl, Nat.le_of_ble_eq_true rfl⟩ hl.1 (Nat.le_of_ble_eq_true rfl) dL_law_655 ⟨Nat.le_of_ble_eq_true rfl, Nat.le_of_ble_eq_true rfl⟩ (fun H locs hW => ?_)
  refine lv_icmp_eq (tgt := 1340) hx hb dL_law_658 (by decide) (fun _ => ?_) (fun z => absurd rfl z)
  exact hnx σ2 _ _ _ hr2 hW (lv_sub hl [0, 1, 2, 3] rfl)
theorem rc_L_77 {p : Program} {l : Launch} {e : Env} {R : Room} {s : State} {m : MethodId} {args : Array Value} {below : List Frame} {meth : Method} {c : Code} {H : Heap} {locs : List Loc} {cells slots : Nat} {Q : State → Prop} {cc : ByteArray} {pc nL : Nat} {ls : Array Slot} {rest : List Value} {G : lb_G} {σ : lb_Mem} {ret : Option FieldType} (X : lb_C G p s m args meth c cc nL RL ret) (hW : lb_W G s σ H locs) {x1 : Int32} {qr : (Int32 × lb_Mem)} (h : f_X8_empties x1 σ = some qr) (hR : lb_room rmX8_empties R 4) (hls : ls.size = nL) (hrest : (rest.map fun v => v.category).sum ≤ 8) (d : decode cc pc = .ok (.invokevirtual 77, 3)) (hcap : cells ≤ R.cells ∧ slots ≤ R.slots) (kk : ∀ (H1 : Heap) (locs1 : List Loc), lb_W G s qr.2 H1 locs1 → W p l e R s m args below meth c H1 locs1 cells slots Q (F0 m (pc + 3) ls (.int qr.1 :: rest))) : W p l e R s m args below meth c H locs cells slots Q (F0 m pc ls (.int x1 :: .ref (lb_ad G 0) :: rest)) :=
  lb_goI hW (lb_runV (As := [.int x1]) X hW (m_X8_empties l G σ x1 qr h) (n := 1) ⟨qw_551, qw_43, qw_554, by decide +kernel⟩ hR qw_552 qw_553 lb_is0 rfl hls hrest d hcap) kk
theorem rc_L_80 {p : Program} {l : Launch} {e : Env} {R : Room} {s : State} {m : MethodId} {args : Array Value} {below : List Frame} {meth : Method} {c : Code} {H : Heap} {locs : List Loc} {cells slots : Nat} {Q : State → Prop} {cc : ByteArray} {pc nL : Nat} {ls : Array Slot} {rest : List Value} {G : lb_G} {σ : lb_Mem} {ret : Option FieldType} (X : lb_C G p s m args meth c cc nL RL ret) (hW : lb_W G s σ H locs) {x1 : Int32} {qr : (Int32 × lb_Mem)} (h : f_X9_empties x1 σ = some qr) (hR : lb_room rmX9_empties R 2) (hls : ls.size = nL) (hrest : (rest.map fun v => v.category).sum ≤ 8) (d : decode cc pc = .ok (.invokevirtual 80, 3)) (hcap : cells ≤ R.cells ∧ slots ≤ R.slots) (kk : ∀ (H1 : Heap) (locs1 : List Loc), lb_W G s qr.2 H1 locs1 → W p l e R s m args below meth c H1 locs1 cells slots Q (F0 m (pc + 3) ls (.int qr.1 :: rest))) : W p l e R s m args below meth c H locs cells slots Q (F0 m pc ls (.int x1 :: .ref (lb_ad G 53) :: rest)) :=
  lb_goI hW (lb_runV (As := [.int x1]) X hW (m_X9_empties l G σ x1 qr h) (n := 1) ⟨qw_965, qw_52, qw_968, by decide +kernel⟩ hR qw_966 qw_967 lb_is53 rfl hls hrest d hcap) kk
def lb_st_empties (Rel : lb_Mem → Prop) : Prop := ∀ (σ : lb_Mem) (x1 : Int32), Rel σ → ∃ (r : Int32) (σ1 σ2 : lb_Mem), f_X8_empties x1 σ = some (r, σ1) ∧ f_X9_empties x1 σ1 = some (r, σ2) ∧ Rel σ2
set_option maxRecDepth 20000 in
theorem lc_663 {p : Program} {l : Launch} {e : Env} {s : State} {m : MethodId} {below : List Frame} {meth : Method} {c : Code} {G : lb_G} {b L k : Nat} {xs : Nat → Int32} (X : lb_C G p s m #[Value.ref b] meth c cL_law 4 RL (some .boolean)) (hX : va_X b L xs s s.heap) (hbl : b < s.heap.size) (hbA : ¬ lb_A G b) (hk : k + 5 < L) (hL : L ≤ 3072) {Rel : lb_Mem → Prop} (hst : lb_st_empties Rel) (hnx : ∀ (σ : lb_Mem) (H : Heap) (locs : List Loc) (ls : Array Slot), Rel σ → lb_W G s σ H locs → lv_has ls 4 [(0, .ref b), (1, .ref (lb_ad G 0)), (2, .ref (lb_ad G 53)), (3, .int (nI k))] → W p l e room_1 s m #[Value.ref b] below meth c H locs 62 739 (lw_Z below #[Value.ref b] s) (F0 m 1340 ls [])) : ∀ (σ : lb_Mem) (H : Heap) (locs : List Loc) (ls : Array Slot), Rel σ → lb_W G s σ H locs → lv_has ls 4 [(0, .ref b), (1, .ref (lb_ad G 0)), (2, .ref (lb_ad G 53)), (3, .int (nI k))] → W p l e room_1 s m #[Value.ref b] below meth c H locs 62 739 (lw_Z below #[Value.ref b] s) (F0 m 663 ls []) := by
  have hx := X.1
  have hb := X.2.1
  obtain ⟨i0, i1, i2, i3, i4, i5⟩ := lb_scr hk hL
  intro σ H locs ls hr hW hl
  obtain ⟨r, σ1, σ2, h1, h2, hr2⟩ := hst σ (xs (nI k + 1).toNatClampNeg) hr
  refine lv_aload_n hx hb dL_law_663 rfl (lv_at hl 1 rfl) ?_
  refine lv_aload_n hx hb dL_law_664 rfl (lv_at hl 0 rfl) ?_
  refine lv_iload_n hx hb dL_law_665 rfl (lv_at hl 3 rfl) ?_
  refine lv_iconst (v := 1) hx hb dL_law_666 rfl ?_
  refine lv_iadd hx hb dL_law_667 ?_
  refine va_sld hx hb hX hbl hbA hW.2 i1 dL_law_668 ?_
  refine rc_L_77 X hW h1 ⟨⟨rfl, rfl⟩, Nat.le_of_ble_eq_true rfl, Nat.le_of_ble_eq_true rfl⟩ hl.1 (Nat.le_of_ble_eq_true rfl) dL_law_669 ⟨Nat.le_of_ble_eq_true rfl, Nat.le_of_ble_eq_true rfl⟩ (fun H locs hW => ?_)
  refine lv_aload_n hx hb dL_law_672 rfl (lv_at hl 2 rfl) ?_
  refine lv_aload_n hx hb dL_law_673 rfl (lv_at hl 0 rfl) ?_
  refine lv_iload_n hx hb dL_law_674 rfl (lv_at hl 3 rfl) ?_
  refine lv_iconst (v := 1) hx hb dL_law_675 rfl ?_
  refine lv_iadd hx hb dL_law_676 ?_
  refine va_sld hx hb hX hbl hbA hW.2 i1 dL_law_677 ?_
  refine rc_L_80 X hW h2 ⟨⟨rfl, rfl⟩, Nat.le_of_ble_eq_true rfl, Nat.le_of_ble_eq_true rfl⟩ hl.1 (Nat.le_of_ble_eq_true rfl) dL_law_678 ⟨Nat.le_of_ble_eq_true rfl, Nat.le_of_ble_eq_true rfl⟩ (fun H locs hW => ?_)
  refine lv_icmp_eq (tgt := 1340) hx hb dL_law_681 (by decide) (fun _ => ?_) (fun z => absurd rfl z)
  exact hnx σ2 _ _ _ hr2 hW (lv_sub hl [0, 1, 2, 3] rfl)
theorem rc_L_81 {p : Program} {l : Launch} {e : Env} {R : Room} {s : State} {m : MethodId} {args : Array Value} {below : List Frame} {meth : Method} {c : Code} {H : Heap} {locs : List Loc} {cells slots : Nat} {Q : State → Prop} {cc : ByteArray} {pc nL : Nat} {ls : Array Slot} {rest : List Value} {G : lb_G} {σ : lb_Mem} {ret : Option FieldType} (X : lb_C G p s m args meth c cc nL RL ret) (hW : lb_W G s σ H locs) {x1 : Int32} {x2 : Int32} {qr : (Int32 × lb_Mem)} (h : f_X8_label x1 x2 σ = some qr) (hR : lb_room rmX8_label R 8) (hls : ls.size = nL) (hrest : (rest.map fun v => v.category).sum ≤ 8) (d : decode cc pc = .ok (.invokevirtual 81, 3)) (hcap : cells ≤ R.cells ∧ slots ≤ R.slots) (kk : ∀ (H1 : Heap) (locs1 : List Loc), lb_W G s qr.2 H1 locs1 → W p l e R s m args below meth c H1 locs1 cells slots Q (F0 m (pc + 3) ls (.int qr.1 :: rest))) : W p l e R s m args below meth c H locs cells slots Q (F0 m pc ls (.int x2 :: .int x1 :: .ref (lb_ad G 0) :: rest)) :=
  lb_goI hW (lb_runV (As := [.int x1, .int x2]) X hW (m_X8_label l G σ x1 x2 qr h) (n := 2) ⟨qw_555, qw_43, qw_558, by decide +kernel⟩ hR qw_556 qw_557 lb_is0 rfl hls hrest d hcap) kk
theorem rc_L_84 {p : Program} {l : Launch} {e : Env} {R : Room} {s : State} {m : MethodId} {args : Array Value} {below : List Frame} {meth : Method} {c : Code} {H : Heap} {locs : List Loc} {cells slots : Nat} {Q : State → Prop} {cc : ByteArray} {pc nL : Nat} {ls : Array Slot} {rest : List Value} {G : lb_G} {σ : lb_Mem} {ret : Option FieldType} (X : lb_C G p s m args meth c cc nL RL ret) (hW : lb_W G s σ H locs) {x1 : Int32} {x2 : Int32} {qr : (Int32 × lb_Mem)} (h : f_X9_label x1 x2 σ = some qr) (hR : lb_room rmX9_label R 8) (hls : ls.size = nL) (hrest : (rest.map fun v => v.category).sum ≤ 8) (d : decode cc pc = .ok (.invokevirtual 84, 3)) (hcap : cells ≤ R.cells ∧ slots ≤ R.slots) (kk : ∀ (H1 : Heap) (locs1 : List Loc), lb_W G s qr.2 H1 locs1 → W p l e R s m args below meth c H1 locs1 cells slots Q (F0 m (pc + 3) ls (.int qr.1 :: rest))) : W p l e R s m args below meth c H locs cells slots Q (F0 m pc ls (.int x2 :: .int x1 :: .ref (lb_ad G 53) :: rest)) :=
  lb_goI hW (lb_runV (As := [.int x1, .int x2]) X hW (m_X9_label l G σ x1 x2 qr h) (n := 2) ⟨qw_969, qw_52, qw_972, by decide +kernel⟩ hR qw_970 qw_971 lb_is53 rfl hls hrest d hcap) kk
def lb_st_label (Rel : lb_Mem → Prop) : Prop := ∀ (σ : lb_Mem) (x1 : Int32) (x2 : Int32), Rel σ → ∃ (r : Int32) (σ1 σ2 : lb_Mem), f_X8_label x1 x2 σ = some (r, σ1) ∧ f_X9_label x1 x2 σ1 = some (r, σ2) ∧ Rel σ2
set_option maxRecDepth 20000 in
theorem lc_686 {p : Program} {l : Launch} {e : Env} {s : State} {m : MethodId} {below : List Frame} {meth : Method} {c : Code} {G : lb_G} {b L k : Nat} {xs : Nat → Int32} (X : lb_C G p s m #[Value.ref b] meth c cL_law 4 RL (some .boolean)) (hX : va_X b L xs s s.heap) (hbl : b < s.heap.size) (hbA : ¬ lb_A G b) (hk : k + 5 < L) (hL : L ≤ 3072) {Rel : lb_Mem → Prop} (hst : lb_st_label Rel) (hnx : ∀ (σ : lb_Mem) (H : Heap) (locs : List Loc) (ls : Array Slot), Rel σ → lb_W G s σ H locs → lv_has ls 4 [(0, .ref b), (1, .ref (lb_ad G 0)), (2, .ref (lb_ad G 53)), (3, .int (nI k))] → W p l e room_1 s m #[Value.ref b] below meth c H locs 62 739 (lw_Z below #[Value.ref b] s) (F0 m 1340 ls [])) : ∀ (σ : lb_Mem) (H : Heap) (locs : List Loc) (ls : Array Slot), Rel σ → lb_W G s σ H locs → lv_has ls 4 [(0, .ref b), (1, .ref (lb_ad G 0)), (2, .ref (lb_ad G 53)), (3, .int (nI k))] → W p l e room_1 s m #[Value.ref b] below meth c H locs 62 739 (lw_Z below #[Value.ref b] s) (F0 m 686 ls []) := by
  have hx := X.1
  have hb := X.2.1
  obtain ⟨i0, i1, i2, i3, i4, i5⟩ := lb_scr hk hL
  intro σ H locs ls hr hW hl
  obtain ⟨r, σ1, σ2, h1, h2, hr2⟩ := hst σ (xs (nI k + 1).toNatClampNeg) (xs (nI k + 2).toNatClampNeg) hr
  refine lv_aload_n hx hb dL_law_686 rfl (lv_at hl 1 rfl) ?_
  refine lv_aload_n hx hb dL_law_687 rfl (lv_at hl 0 rfl) ?_
  refine lv_iload_n hx hb dL_law_688 rfl (lv_at hl 3 rfl) ?_
  refine lv_iconst (v := 1) hx hb dL_law_689 rfl ?_
  refine lv_iadd hx hb dL_law_690 ?_
  refine va_sld hx hb hX hbl hbA hW.2 i1 dL_law_691 ?_
  refine lv_aload_n hx hb dL_law_692 rfl (lv_at hl 0 rfl) ?_
  refine lv_iload_n hx hb dL_law_693 rfl (lv_at hl 3 rfl) ?_
  refine lv_iconst (v := 2) hx hb dL_law_694 rfl ?_
  refine lv_iadd hx hb dL_law_695 ?_
  refine va_sld hx hb hX hbl hbA hW.2 i2 dL_law_696 ?_
  refine rc_L_81 X hW h1 ⟨⟨rfl, rfl⟩, Nat.le_of_ble_eq_true rfl, Nat.le_of_ble_eq_true rfl⟩ hl.1 (Nat.le_of_ble_eq_true rfl) dL_law_697 ⟨Nat.le_of_ble_eq_true rfl, Nat.le_of_ble_eq_true rfl⟩ (fun H locs hW => ?_)
  refine lv_aload_n hx hb dL_law_700 rfl (lv_at hl 2 rfl) ?_
  refine lv_aload_n hx hb dL_law_701 rfl (lv_at hl 0 rfl) ?_
  refine lv_iload_n hx hb dL_law_702 rfl (lv_at hl 3 rfl) ?_
  refine lv_iconst (v := 1) hx hb dL_law_703 rfl ?_
  refine lv_iadd hx hb dL_law_704 ?_
  refine va_sld hx hb hX hbl hbA hW.2 i1 dL_law_705 ?_
  refine lv_aload_n hx hb dL_law_706 rfl (lv_at hl 0 rfl) ?_
  refine lv_iload_n hx hb dL_law_707 rfl (lv_at hl 3 rfl) ?_
  refine lv_iconst (v := 2) hx hb dL_law_708 rfl ?_
  refine lv_iadd hx hb dL_law_709 ?_
  refine va_sld hx hb hX hbl hbA hW.2 i2 dL_law_710 ?_
  refine rc_L_84 X hW h2 ⟨⟨rfl, rfl⟩, Nat.le_of_ble_eq_true rfl, Nat.le_of_ble_eq_true rfl⟩ hl.1 (Nat.le_of_ble_eq_true rfl) dL_law_711 ⟨Nat.le_of_ble_eq_true rfl, Nat.le_of_ble_eq_true rfl⟩ (fun H locs hW => ?_)
  refine lv_icmp_eq (tgt := 1340) hx hb dL_law_714 (by decide) (fun _ => ?_) (fun z => absurd rfl z)
  exact hnx σ2 _ _ _ hr2 hW (lv_sub hl [0, 1, 2, 3] rfl)
theorem rc_L_85 {p : Program} {l : Launch} {e : Env} {R : Room} {s : State} {m : MethodId} {args : Array Value} {below : List Frame} {meth : Method} {c : Code} {H : Heap} {locs : List Loc} {cells slots : Nat} {Q : State → Prop} {cc : ByteArray} {pc nL : Nat} {ls : Array Slot} {rest : List Value} {G : lb_G} {σ : lb_Mem} {ret : Option FieldType} (X : lb_C G p s m args meth c cc nL RL ret) (hW : lb_W G s σ H locs) {x1 : Int32} {qr : (Int32 × lb_Mem)} (h : f_X8_honest x1 σ = some qr) (hR : lb_room rmX8_honest R 3) (hls : ls.size = nL) (hrest : (rest.map fun v => v.category).sum ≤ 8) (d : decode cc pc = .ok (.invokevirtual 85, 3)) (hcap : cells ≤ R.cells ∧ slots ≤ R.slots) (kk : ∀ (H1 : Heap) (locs1 : List Loc), lb_W G s qr.2 H1 locs1 → W p l e R s m args below meth c H1 locs1 cells slots Q (F0 m (pc + 3) ls (.int qr.1 :: rest))) : W p l e R s m args below meth c H locs cells slots Q (F0 m pc ls (.int x1 :: .ref (lb_ad G 0) :: rest)) :=
  lb_goI hW (lb_runV (As := [.int x1]) X hW (m_X8_honest l G σ x1 qr h) (n := 1) ⟨qw_559, qw_43, qw_562, by decide +kernel⟩ hR qw_560 qw_561 lb_is0 rfl hls hrest d hcap) kk
theorem rc_L_88 {p : Program} {l : Launch} {e : Env} {R : Room} {s : State} {m : MethodId} {args : Array Value} {below : List Frame} {meth : Method} {c : Code} {H : Heap} {locs : List Loc} {cells slots : Nat} {Q : State → Prop} {cc : ByteArray} {pc nL : Nat} {ls : Array Slot} {rest : List Value} {G : lb_G} {σ : lb_Mem} {ret : Option FieldType} (X : lb_C G p s m args meth c cc nL RL ret) (hW : lb_W G s σ H locs) {x1 : Int32} {qr : (Int32 × lb_Mem)} (h : f_X9_honest x1 σ = some qr) (hR : lb_room rmX9_honest R 2) (hls : ls.size = nL) (hrest : (rest.map fun v => v.category).sum ≤ 8) (d : decode cc pc = .ok (.invokevirtual 88, 3)) (hcap : cells ≤ R.cells ∧ slots ≤ R.slots) (kk : ∀ (H1 : Heap) (locs1 : List Loc), lb_W G s qr.2 H1 locs1 → W p l e R s m args below meth c H1 locs1 cells slots Q (F0 m (pc + 3) ls (.int qr.1 :: rest))) : W p l e R s m args below meth c H locs cells slots Q (F0 m pc ls (.int x1 :: .ref (lb_ad G 53) :: rest)) :=
  lb_goI hW (lb_runV (As := [.int x1]) X hW (m_X9_honest l G σ x1 qr h) (n := 1) ⟨qw_973, qw_52, qw_976, by decide +kernel⟩ hR qw_974 qw_975 lb_is53 rfl hls hrest d hcap) kk
def lb_st_honest (Rel : lb_Mem → Prop) : Prop := ∀ (σ : lb_Mem) (x1 : Int32), Rel σ → ∃ (r : Int32) (σ1 σ2 : lb_Mem), f_X8_honest x1 σ = some (r, σ1) ∧ f_X9_honest x1 σ1 = some (r, σ2) ∧ Rel σ2
set_option maxRecDepth 20000 in
theorem lc_719 {p : Program} {l : Launch} {e : Env} {s : State} {m : MethodId} {below : List Frame} {meth : Method} {c : Code} {G : lb_G} {b L k : Nat} {xs : Nat → Int32} (X : lb_C G p s m #[Value.ref b] meth c cL_law 4 RL (some .boolean)) (hX : va_X b L xs s s.heap) (hbl : b < s.heap.size) (hbA : ¬ lb_A G b) (hk : k + 5 < L) (hL : L ≤ 3072) {Rel : lb_Mem → Prop} (hst : lb_st_honest Rel) (hnx : ∀ (σ : lb_Mem) (H : Heap) (locs : List Loc) (ls : Array Slot), Rel σ → lb_W G s σ H locs → lv_has ls 4 [(0, .ref b), (1, .ref (lb_ad G 0)), (2, .ref (lb_ad G 53)), (3, .int (nI k))] → W p l e room_1 s m #[Value.ref b] below meth c H locs 62 739 (lw_Z below #[Value.ref b] s) (F0 m 1340 ls [])) : ∀ (σ : lb_Mem) (H : Heap) (locs : List Loc) (ls : Array Slot), Rel σ → lb_W G s σ H locs → lv_has ls 4 [(0, .ref b), (1, .ref (lb_ad G 0)), (2, .ref (lb_ad G 53)), (3, .int (nI k))] → W p l e room_1 s m #[Value.ref b] below meth c H locs 62 739 (lw_Z below #[Value.ref b] s) (F0 m 719 ls []) := by
  have hx := X.1
  have hb := X.2.1
  obtain ⟨i0, i1, i2, i3, i4, i5⟩ := lb_scr hk hL
  intro σ H locs ls hr hW hl
  obtain ⟨r, σ1, σ2, h1, h2, hr2⟩ := hst σ (xs (nI k + 1).toNatClampNeg) hr
  refine lv_aload_n hx hb dL_law_719 rfl (lv_at hl 1 rfl) ?_
  refine lv_aload_n hx hb dL_law_720 rfl (lv_at hl 0 rfl) ?_
  refine lv_iload_n hx hb dL_law_721 rfl (lv_at hl 3 rfl) ?_
  refine lv_iconst (v := 1) hx hb dL_law_722 rfl ?_
  refine lv_iadd hx hb dL_law_723 ?_
  refine va_sld hx hb hX hbl hbA hW.2 i1 dL_law_724 ?_
  refine rc_L_85 X hW h1 ⟨⟨rfl, rfl⟩, Nat.le_of_ble_eq_true rfl, Nat.le_of_ble_eq_true rfl⟩ hl.1 (Nat.le_of_ble_eq_true rfl) dL_law_725 ⟨Nat.le_of_ble_eq_true rfl, Nat.le_of_ble_eq_true rfl⟩ (fun H locs hW => ?_)
  refine lv_aload_n hx hb dL_law_728 rfl (lv_at hl 2 rfl) ?_
  refine lv_aload_n hx hb dL_law_729 rfl (lv_at hl 0 rfl) ?_
  refine lv_iload_n hx hb dL_law_730 rfl (lv_at hl 3 rfl) ?_
  refine lv_iconst (v := 1) hx hb dL_law_731 rfl ?_
  refine lv_iadd hx hb dL_law_732 ?_
  refine va_sld hx hb hX hbl hbA hW.2 i1 dL_law_733 ?_
  refine rc_L_88 X hW h2 ⟨⟨rfl, rfl⟩, Nat.le_of_ble_eq_true rfl, Nat.le_of_ble_eq_true rfl⟩ hl.1 (Nat.le_of_ble_eq_true rfl) dL_law_734 ⟨Nat.le_of_ble_eq_true rfl, Nat.le_of_ble_eq_true rfl⟩ (fun H locs hW => ?_)
  refine lv_icmp_eq (tgt := 1340) hx hb dL_law_737 (by decide) (fun _ => ?_) (fun z => absurd rfl z)
  exact hnx σ2 _ _ _ hr2 hW (lv_sub hl [0, 1, 2, 3] rfl)
theorem rc_L_89 {p : Program} {l : Launch} {e : Env} {R : Room} {s : State} {m : MethodId} {args : Array Value} {below : List Frame} {meth : Method} {c : Code} {H : Heap} {locs : List Loc} {cells slots : Nat} {Q : State → Prop} {cc : ByteArray} {pc nL : Nat} {ls : Array Slot} {rest : List Value} {G : lb_G} {σ : lb_Mem} {ret : Option FieldType} (X : lb_C G p s m args meth c cc nL RL ret) (hW : lb_W G s σ H locs) {x1 : Int32} {x2 : Int32} {qr : (Int32 × lb_Mem)} (h : f_X8_audit x1 x2 σ = some qr) (hR : lb_room rmX8_audit R 6) (hls : ls.size = nL) (hrest : (rest.map fun v => v.category).sum ≤ 8) (d : decode cc pc = .ok (.invokevirtual 89, 3)) (hcap : cells ≤ R.cells ∧ slots ≤ R.slots) (kk : ∀ (H1 : Heap) (locs1 : List Loc), lb_W G s qr.2 H1 locs1 → W p l e R s m args below meth c H1 locs1 cells slots Q (F0 m (pc + 3) ls (.int qr.1 :: rest))) : W p l e R s m args below meth c H locs cells slots Q (F0 m pc ls (.int x2 :: .int x1 :: .ref (lb_ad G 0) :: rest)) :=
  lb_goI hW (lb_runV (As := [.int x1, .int x2]) X hW (m_X8_audit l G σ x1 x2 qr h) (n := 2) ⟨qw_571, qw_43, qw_574, by decide +kernel⟩ hR qw_572 qw_573 lb_is0 rfl hls hrest d hcap) kk
theorem rc_L_92 {p : Program} {l : Launch} {e : Env} {R : Room} {s : State} {m : MethodId} {args : Array Value} {below : List Frame} {meth : Method} {c : Code} {H : Heap} {locs : List Loc} {cells slots : Nat} {Q : State → Prop} {cc : ByteArray} {pc nL : Nat} {ls : Array Slot} {rest : List Value} {G : lb_G} {σ : lb_Mem} {ret : Option FieldType} (X : lb_C G p s m args meth c cc nL RL ret) (hW : lb_W G s σ H locs) {x1 : Int32} {x2 : Int32} {qr : (Int32 × lb_Mem)} (h : f_X9_audit x1 x2 σ = some qr) (hR : lb_room rmX9_audit R 6) (hls : ls.size = nL) (hrest : (rest.map fun v => v.category).sum ≤ 8) (d : decode cc pc = .ok (.invokevirtual 92, 3)) (hcap : cells ≤ R.cells ∧ slots ≤ R.slots) (kk : ∀ (H1 : Heap) (locs1 : List Loc), lb_W G s qr.2 H1 locs1 → W p l e R s m args below meth c H1 locs1 cells slots Q (F0 m (pc + 3) ls (.int qr.1 :: rest))) : W p l e R s m args below meth c H locs cells slots Q (F0 m pc ls (.int x2 :: .int x1 :: .ref (lb_ad G 53) :: rest)) :=
  lb_goI hW (lb_runV (As := [.int x1, .int x2]) X hW (m_X9_audit l G σ x1 x2 qr h) (n := 2) ⟨qw_985, qw_52, qw_988, by decide +kernel⟩ hR qw_986 qw_987 lb_is53 rfl hls hrest d hcap) kk
def lb_st_audit (Rel : lb_Mem → Prop) : Prop := ∀ (σ : lb_Mem) (x1 : Int32) (x2 : Int32), Rel σ → ∃ (r : Int32) (σ1 σ2 : lb_Mem), f_X8_audit x1 x2 σ = some (r, σ1) ∧ f_X9_audit x1 x2 σ1 = some (r, σ2) ∧ Rel σ2
set_option maxRecDepth 20000 in
theorem lc_742 {p : Program} {l : Launch} {e : Env} {s : State} {m : MethodId} {below : List Frame} {meth : Method} {c : Code} {G : lb_G} {b L k : Nat} {xs : Nat → Int32} (X : lb_C G p s m #[Value.ref b] meth c cL_law 4 RL (some .boolean)) (hX : va_X b L xs s s.heap) (hbl : b < s.heap.size) (hbA : ¬ lb_A G b) (hk : k + 5 < L) (hL : L ≤ 3072) {Rel : lb_Mem → Prop} (hst : lb_st_audit Rel) (hnx : ∀ (σ : lb_Mem) (H : Heap) (locs : List Loc) (ls : Array Slot), Rel σ → lb_W G s σ H locs → lv_has ls 4 [(0, .ref b), (1, .ref (lb_ad G 0)), (2, .ref (lb_ad G 53)), (3, .int (nI k))] → W p l e room_1 s m #[Value.ref b] below meth c H locs 62 739 (lw_Z below #[Value.ref b] s) (F0 m 1340 ls [])) : ∀ (σ : lb_Mem) (H : Heap) (locs : List Loc) (ls : Array Slot), Rel σ → lb_W G s σ H locs → lv_has ls 4 [(0, .ref b), (1, .ref (lb_ad G 0)), (2, .ref (lb_ad G 53)), (3, .int (nI k))] → W p l e room_1 s m #[Value.ref b] below meth c H locs 62 739 (lw_Z below #[Value.ref b] s) (F0 m 742 ls []) := by
  have hx := X.1
  have hb := X.2.1
  obtain ⟨i0, i1, i2, i3, i4, i5⟩ := lb_scr hk hL
  intro σ H locs ls hr hW hl
  obtain ⟨r, σ1, σ2, h1, h2, hr2⟩ := hst σ (xs (nI k + 1).toNatClampNeg) (xs (nI k + 2).toNatClampNeg) hr
  refine lv_aload_n hx hb dL_law_742 rfl (lv_at hl 1 rfl) ?_
  refine lv_aload_n hx hb dL_law_743 rfl (lv_at hl 0 rfl) ?_
  refine lv_iload_n hx hb dL_law_744 rfl (lv_at hl 3 rfl) ?_
  refine lv_iconst (v := 1) hx hb dL_law_745 rfl ?_
  refine lv_iadd hx hb dL_law_746 ?_
  refine va_sld hx hb hX hbl hbA hW.2 i1 dL_law_747 ?_
  refine lv_aload_n hx hb dL_law_748 rfl (lv_at hl 0 rfl) ?_
  refine lv_iload_n hx hb dL_law_749 rfl (lv_at hl 3 rfl) ?_
  refine lv_iconst (v := 2) hx hb dL_law_750 rfl ?_
  refine lv_iadd hx hb dL_law_751 ?_
  refine va_sld hx hb hX hbl hbA hW.2 i2 dL_law_752 ?_
  refine rc_L_89 X hW h1 ⟨⟨rfl, rfl⟩, Nat.le_of_ble_eq_true rfl, Nat.le_of_ble_eq_true rfl⟩ hl.1 (Nat.le_of_ble_eq_true rfl) dL_law_753 ⟨Nat.le_of_ble_eq_true rfl, Nat.le_of_ble_eq_true rfl⟩ (fun H locs hW => ?_)
  refine lv_aload_n hx hb dL_law_756 rfl (lv_at hl 2 rfl) ?_
  refine lv_aload_n hx hb dL_law_757 rfl (lv_at hl 0 rfl) ?_
  refine lv_iload_n hx hb dL_law_758 rfl (lv_at hl 3 rfl) ?_
  refine lv_iconst (v := 1) hx hb dL_law_759 rfl ?_
  refine lv_iadd hx hb dL_law_760 ?_
  refine va_sld hx hb hX hbl hbA hW.2 i1 dL_law_761 ?_
  refine lv_aload_n hx hb dL_law_762 rfl (lv_at hl 0 rfl) ?_
  refine lv_iload_n hx hb dL_law_763 rfl (lv_at hl 3 rfl) ?_
  refine lv_iconst (v := 2) hx hb dL_law_764 rfl ?_
  refine lv_iadd hx hb dL_law_765 ?_
  refine va_sld hx hb hX hbl hbA hW.2 i2 dL_law_766 ?_
  refine rc_L_92 X hW h2 ⟨⟨rfl, rfl⟩, Nat.le_of_ble_eq_true rfl, Nat.le_of_ble_eq_true rfl⟩ hl.1 (Nat.le_of_ble_eq_true rfl) dL_law_767 ⟨Nat.le_of_ble_eq_true rfl, Nat.le_of_ble_eq_true rfl⟩ (fun H locs hW => ?_)
  refine lv_icmp_eq (tgt := 1340) hx hb dL_law_770 (by decide) (fun _ => ?_) (fun z => absurd rfl z)
  exact hnx σ2 _ _ _ hr2 hW (lv_sub hl [0, 1, 2, 3] rfl)
theorem rc_L_93 {p : Program} {l : Launch} {e : Env} {R : Room} {s : State} {m : MethodId} {args : Array Value} {below : List Frame} {meth : Method} {c : Code} {H : Heap} {locs : List Loc} {cells slots : Nat} {Q : State → Prop} {cc : ByteArray} {pc nL : Nat} {ls : Array Slot} {rest : List Value} {G : lb_G} {σ : lb_Mem} {ret : Option FieldType} (X : lb_C G p s m args meth c cc nL RL ret) (hW : lb_W G s σ H locs) {x1 : Int32} {qr : (Int32 × lb_Mem)} (h : f_X8_change x1 σ = some qr) (hR : lb_room rmX8_change R 8) (hls : ls.size = nL) (hrest : (rest.map fun v => v.category).sum ≤ 8) (d : decode cc pc = .ok (.invokevirtual 93, 3)) (hcap : cells ≤ R.cells ∧ slots ≤ R.slots) (kk : ∀ (H1 : Heap) (locs1 : List Loc), lb_W G s qr.2 H1 locs1 → W p l e R s m args below meth c H1 locs1 cells slots Q (F0 m (pc + 3) ls (.int qr.1 :: rest))) : W p l e R s m args below meth c H locs cells slots Q (F0 m pc ls (.int x1 :: .ref (lb_ad G 0) :: rest)) :=
  lb_goI hW (lb_runV (As := [.int x1]) X hW (m_X8_change l G σ x1 qr h) (n := 1) ⟨qw_575, qw_43, qw_578, by decide +kernel⟩ hR qw_576 qw_577 lb_is0 rfl hls hrest d hcap) kk
theorem rc_L_96 {p : Program} {l : Launch} {e : Env} {R : Room} {s : State} {m : MethodId} {args : Array Value} {below : List Frame} {meth : Method} {c : Code} {H : Heap} {locs : List Loc} {cells slots : Nat} {Q : State → Prop} {cc : ByteArray} {pc nL : Nat} {ls : Array Slot} {rest : List Value} {G : lb_G} {σ : lb_Mem} {ret : Option FieldType} (X : lb_C G p s m args meth c cc nL RL ret) (hW : lb_W G s σ H locs) {x1 : Int32} {qr : (Int32 × lb_Mem)} (h : f_X9_change x1 σ = some qr) (hR : lb_room rmX9_change R 7) (hls : ls.size = nL) (hrest : (rest.map fun v => v.category).sum ≤ 8) (d : decode cc pc = .ok (.invokevirtual 96, 3)) (hcap : cells ≤ R.cells ∧ slots ≤ R.slots) (kk : ∀ (H1 : Heap) (locs1 : List Loc), lb_W G s qr.2 H1 locs1 → W p l e R s m args below meth c H1 locs1 cells slots Q (F0 m (pc + 3) ls (.int qr.1 :: rest))) : W p l e R s m args below meth c H locs cells slots Q (F0 m pc ls (.int x1 :: .ref (lb_ad G 53) :: rest)) :=
  lb_goI hW (lb_runV (As := [.int x1]) X hW (m_X9_change l G σ x1 qr h) (n := 1) ⟨qw_993, qw_52, qw_996, by decide +kernel⟩ hR qw_994 qw_995 lb_is53 rfl hls hrest d hcap) kk
def lb_st_change (Rel : lb_Mem → Prop) : Prop := ∀ (σ : lb_Mem) (x1 : Int32), Rel σ → ∃ (r : Int32) (σ1 σ2 : lb_Mem), f_X8_change x1 σ = some (r, σ1) ∧ f_X9_change x1 σ1 = some (r, σ2) ∧ Rel σ2
set_option maxRecDepth 20000 in
theorem lc_775 {p : Program} {l : Launch} {e : Env} {s : State} {m : MethodId} {below : List Frame} {meth : Method} {c : Code} {G : lb_G} {b L k : Nat} {xs : Nat → Int32} (X : lb_C G p s m #[Value.ref b] meth c cL_law 4 RL (some .boolean)) (hX : va_X b L xs s s.heap) (hbl : b < s.heap.size) (hbA : ¬ lb_A G b) (hk : k + 5 < L) (hL : L ≤ 3072) {Rel : lb_Mem → Prop} (hst : lb_st_change Rel) (hnx : ∀ (σ : lb_Mem) (H : Heap) (locs : List Loc) (ls : Array Slot), Rel σ → lb_W G s σ H locs → lv_has ls 4 [(0, .ref b), (1, .ref (lb_ad G 0)), (2, .ref (lb_ad G 53)), (3, .int (nI k))] → W p l e room_1 s m #[Value.ref b] below meth c H locs 62 739 (lw_Z below #[Value.ref b] s) (F0 m 1340 ls [])) : ∀ (σ : lb_Mem) (H : Heap) (locs : List Loc) (ls : Array Slot), Rel σ → lb_W G s σ H locs → lv_has ls 4 [(0, .ref b), (1, .ref (lb_ad G 0)), (2, .ref (lb_ad G 53)), (3, .int (nI k))] → W p l e room_1 s m #[Value.ref b] below meth c H locs 62 739 (lw_Z below #[Value.ref b] s) (F0 m 775 ls []) := by
  have hx := X.1
  have hb := X.2.1
  obtain ⟨i0, i1, i2, i3, i4, i5⟩ := lb_scr hk hL
  intro σ H locs ls hr hW hl
  obtain ⟨r, σ1, σ2, h1, h2, hr2⟩ := hst σ (xs (nI k + 1).toNatClampNeg) hr
  refine lv_aload_n hx hb dL_law_775 rfl (lv_at hl 1 rfl) ?_
  refine lv_aload_n hx hb dL_law_776 rfl (lv_at hl 0 rfl) ?_
  refine lv_iload_n hx hb dL_law_777 rfl (lv_at hl 3 rfl) ?_
  refine lv_iconst (v := 1) hx hb dL_law_778 rfl ?_
  refine lv_iadd hx hb dL_law_779 ?_
  refine va_sld hx hb hX hbl hbA hW.2 i1 dL_law_780 ?_
  refine rc_L_93 X hW h1 ⟨⟨rfl, rfl⟩, Nat.le_of_ble_eq_true rfl, Nat.le_of_ble_eq_true rfl⟩ hl.1 (Nat.le_of_ble_eq_true rfl) dL_law_781 ⟨Nat.le_of_ble_eq_true rfl, Nat.le_of_ble_eq_true rfl⟩ (fun H locs hW => ?_)
  refine lv_aload_n hx hb dL_law_784 rfl (lv_at hl 2 rfl) ?_
  refine lv_aload_n hx hb dL_law_785 rfl (lv_at hl 0 rfl) ?_
  refine lv_iload_n hx hb dL_law_786 rfl (lv_at hl 3 rfl) ?_
  refine lv_iconst (v := 1) hx hb dL_law_787 rfl ?_
  refine lv_iadd hx hb dL_law_788 ?_
  refine va_sld hx hb hX hbl hbA hW.2 i1 dL_law_789 ?_
  refine rc_L_96 X hW h2 ⟨⟨rfl, rfl⟩, Nat.le_of_ble_eq_true rfl, Nat.le_of_ble_eq_true rfl⟩ hl.1 (Nat.le_of_ble_eq_true rfl) dL_law_790 ⟨Nat.le_of_ble_eq_true rfl, Nat.le_of_ble_eq_true rfl⟩ (fun H locs hW => ?_)
  refine lv_icmp_eq (tgt := 1340) hx hb dL_law_793 (by decide) (fun _ => ?_) (fun z => absurd rfl z)
  exact hnx σ2 _ _ _ hr2 hW (lv_sub hl [0, 1, 2, 3] rfl)
theorem rc_L_97 {p : Program} {l : Launch} {e : Env} {R : Room} {s : State} {m : MethodId} {args : Array Value} {below : List Frame} {meth : Method} {c : Code} {H : Heap} {locs : List Loc} {cells slots : Nat} {Q : State → Prop} {cc : ByteArray} {pc nL : Nat} {ls : Array Slot} {rest : List Value} {G : lb_G} {σ : lb_Mem} {ret : Option FieldType} (X : lb_C G p s m args meth c cc nL RL ret) (hW : lb_W G s σ H locs) {x1 : Int32} {qr : (Int32 × lb_Mem)} (h : f_X8_gift x1 σ = some qr) (hR : lb_room rmX8_gift R 8) (hls : ls.size = nL) (hrest : (rest.map fun v => v.category).sum ≤ 8) (d : decode cc pc = .ok (.invokevirtual 97, 3)) (hcap : cells ≤ R.cells ∧ slots ≤ R.slots) (kk : ∀ (H1 : Heap) (locs1 : List Loc), lb_W G s qr.2 H1 locs1 → W p l e R s m args below meth c H1 locs1 cells slots Q (F0 m (pc + 3) ls (.int qr.1 :: rest))) : W p l e R s m args below meth c H locs cells slots Q (F0 m pc ls (.int x1 :: .ref (lb_ad G 0) :: rest)) :=
  lb_goI hW (lb_runV (As := [.int x1]) X hW (m_X8_gift l G σ x1 qr h) (n := 1) ⟨qw_583, qw_43, qw_586, by decide +kernel⟩ hR qw_584 qw_585 lb_is0 rfl hls hrest d hcap) kk
theorem rc_L_100 {p : Program} {l : Launch} {e : Env} {R : Room} {s : State} {m : MethodId} {args : Array Value} {below : List Frame} {meth : Method} {c : Code} {H : Heap} {locs : List Loc} {cells slots : Nat} {Q : State → Prop} {cc : ByteArray} {pc nL : Nat} {ls : Array Slot} {rest : List Value} {G : lb_G} {σ : lb_Mem} {ret : Option FieldType} (X : lb_C G p s m args meth c cc nL RL ret) (hW : lb_W G s σ H locs) {x1 : Int32} {qr : (Int32 × lb_Mem)} (h : f_X9_gift x1 σ = some qr) (hR : lb_room rmX9_gift R 8) (hls : ls.size = nL) (hrest : (rest.map fun v => v.category).sum ≤ 8) (d : decode cc pc = .ok (.invokevirtual 100, 3)) (hcap : cells ≤ R.cells ∧ slots ≤ R.slots) (kk : ∀ (H1 : Heap) (locs1 : List Loc), lb_W G s qr.2 H1 locs1 → W p l e R s m args below meth c H1 locs1 cells slots Q (F0 m (pc + 3) ls (.int qr.1 :: rest))) : W p l e R s m args below meth c H locs cells slots Q (F0 m pc ls (.int x1 :: .ref (lb_ad G 53) :: rest)) :=
  lb_goI hW (lb_runV (As := [.int x1]) X hW (m_X9_gift l G σ x1 qr h) (n := 1) ⟨qw_997, qw_52, qw_1000, by decide +kernel⟩ hR qw_998 qw_999 lb_is53 rfl hls hrest d hcap) kk
def lb_st_gift (Rel : lb_Mem → Prop) : Prop := ∀ (σ : lb_Mem) (x1 : Int32), Rel σ → ∃ (r : Int32) (σ1 σ2 : lb_Mem), f_X8_gift x1 σ = some (r, σ1) ∧ f_X9_gift x1 σ1 = some (r, σ2) ∧ Rel σ2
set_option maxRecDepth 20000 in
theorem lc_798 {p : Program} {l : Launch} {e : Env} {s : State} {m : MethodId} {below : List Frame} {meth : Method} {c : Code} {G : lb_G} {b L k : Nat} {xs : Nat → Int32} (X : lb_C G p s m #[Value.ref b] meth c cL_law 4 RL (some .boolean)) (hX : va_X b L xs s s.heap) (hbl : b < s.heap.size) (hbA : ¬ lb_A G b) (hk : k + 5 < L) (hL : L ≤ 3072) {Rel : lb_Mem → Prop} (hst : lb_st_gift Rel) (hnx : ∀ (σ : lb_Mem) (H : Heap) (locs : List Loc) (ls : Array Slot), Rel σ → lb_W G s σ H locs → lv_has ls 4 [(0, .ref b), (1, .ref (lb_ad G 0)), (2, .ref (lb_ad G 53)), (3, .int (nI k))] → W p l e room_1 s m #[Value.ref b] below meth c H locs 62 739 (lw_Z below #[Value.ref b] s) (F0 m 1340 ls [])) : ∀ (σ : lb_Mem) (H : Heap) (locs : List Loc) (ls : Array Slot), Rel σ → lb_W G s σ H locs → lv_has ls 4 [(0, .ref b), (1, .ref (lb_ad G 0)), (2, .ref (lb_ad G 53)), (3, .int (nI k))] → W p l e room_1 s m #[Value.ref b] below meth c H locs 62 739 (lw_Z below #[Value.ref b] s) (F0 m 798 ls []) := by
  have hx := X.1
  have hb := X.2.1
  obtain ⟨i0, i1, i2, i3, i4, i5⟩ := lb_scr hk hL
  intro σ H locs ls hr hW hl
  obtain ⟨r, σ1, σ2, h1, h2, hr2⟩ := hst σ (xs (nI k + 1).toNatClampNeg) hr
  refine lv_aload_n hx hb dL_law_798 rfl (lv_at hl 1 rfl) ?_
  refine lv_aload_n hx hb dL_law_799 rfl (lv_at hl 0 rfl) ?_
  refine lv_iload_n hx hb dL_law_800 rfl (lv_at hl 3 rfl) ?_
  refine lv_iconst (v := 1) hx hb dL_law_801 rfl ?_
  refine lv_iadd hx hb dL_law_802 ?_
  refine va_sld hx hb hX hbl hbA hW.2 i1 dL_law_803 ?_
  refine rc_L_97 X hW h1 ⟨⟨rfl, rfl⟩, Nat.le_of_ble_eq_true rfl, Nat.le_of_ble_eq_true rfl⟩ hl.1 (Nat.le_of_ble_eq_true rfl) dL_law_804 ⟨Nat.le_of_ble_eq_true rfl, Nat.le_of_ble_eq_true rfl⟩ (fun H locs hW => ?_)
  refine lv_aload_n hx hb dL_law_807 rfl (lv_at hl 2 rfl) ?_
  refine lv_aload_n hx hb dL_law_808 rfl (lv_at hl 0 rfl) ?_
  refine lv_iload_n hx hb dL_law_809 rfl (lv_at hl 3 rfl) ?_
  refine lv_iconst (v := 1) hx hb dL_law_810 rfl ?_
  refine lv_iadd hx hb dL_law_811 ?_
  refine va_sld hx hb hX hbl hbA hW.2 i1 dL_law_812 ?_
  refine rc_L_100 X hW h2 ⟨⟨rfl, rfl⟩, Nat.le_of_ble_eq_true rfl, Nat.le_of_ble_eq_true rfl⟩ hl.1 (Nat.le_of_ble_eq_true rfl) dL_law_813 ⟨Nat.le_of_ble_eq_true rfl, Nat.le_of_ble_eq_true rfl⟩ (fun H locs hW => ?_)
  refine lv_icmp_eq (tgt := 1340) hx hb dL_law_816 (by decide) (fun _ => ?_) (fun z => absurd rfl z)
  exact hnx σ2 _ _ _ hr2 hW (lv_sub hl [0, 1, 2, 3] rfl)
theorem rc_L_101 {p : Program} {l : Launch} {e : Env} {R : Room} {s : State} {m : MethodId} {args : Array Value} {below : List Frame} {meth : Method} {c : Code} {H : Heap} {locs : List Loc} {cells slots : Nat} {Q : State → Prop} {cc : ByteArray} {pc nL : Nat} {ls : Array Slot} {rest : List Value} {G : lb_G} {σ : lb_Mem} {ret : Option FieldType} (X : lb_C G p s m args meth c cc nL RL ret) (hW : lb_W G s σ H locs) {x1 : Int32} {qr : (Int32 × lb_Mem)} (h : f_X8_deal x1 σ = some qr) (hR : lb_room rmX8_deal R 6) (hls : ls.size = nL) (hrest : (rest.map fun v => v.category).sum ≤ 8) (d : decode cc pc = .ok (.invokevirtual 101, 3)) (hcap : cells ≤ R.cells ∧ slots ≤ R.slots) (kk : ∀ (H1 : Heap) (locs1 : List Loc), lb_W G s qr.2 H1 locs1 → W p l e R s m args below meth c H1 locs1 cells slots Q (F0 m (pc + 3) ls (.int qr.1 :: rest))) : W p l e R s m args below meth c H locs cells slots Q (F0 m pc ls (.int x1 :: .ref (lb_ad G 0) :: rest)) :=
  lb_goI hW (lb_runV (As := [.int x1]) X hW (m_X8_deal l G σ x1 qr h) (n := 1) ⟨qw_591, qw_43, qw_594, by decide +kernel⟩ hR qw_592 qw_593 lb_is0 rfl hls hrest d hcap) kk
theorem rc_L_104 {p : Program} {l : Launch} {e : Env} {R : Room} {s : State} {m : MethodId} {args : Array Value} {below : List Frame} {meth : Method} {c : Code} {H : Heap} {locs : List Loc} {cells slots : Nat} {Q : State → Prop} {cc : ByteArray} {pc nL : Nat} {ls : Array Slot} {rest : List Value} {G : lb_G} {σ : lb_Mem} {ret : Option FieldType} (X : lb_C G p s m args meth c cc nL RL ret) (hW : lb_W G s σ H locs) {x1 : Int32} {qr : (Int32 × lb_Mem)} (h : f_X9_deal x1 σ = some qr) (hR : lb_room rmX9_deal R 6) (hls : ls.size = nL) (hrest : (rest.map fun v => v.category).sum ≤ 8) (d : decode cc pc = .ok (.invokevirtual 104, 3)) (hcap : cells ≤ R.cells ∧ slots ≤ R.slots) (kk : ∀ (H1 : Heap) (locs1 : List Loc), lb_W G s qr.2 H1 locs1 → W p l e R s m args below meth c H1 locs1 cells slots Q (F0 m (pc + 3) ls (.int qr.1 :: rest))) : W p l e R s m args below meth c H locs cells slots Q (F0 m pc ls (.int x1 :: .ref (lb_ad G 53) :: rest)) :=
  lb_goI hW (lb_runV (As := [.int x1]) X hW (m_X9_deal l G σ x1 qr h) (n := 1) ⟨qw_1005, qw_52, qw_1008, by decide +kernel⟩ hR qw_1006 qw_1007 lb_is53 rfl hls hrest d hcap) kk
def lb_st_deal (Rel : lb_Mem → Prop) : Prop := ∀ (σ : lb_Mem) (x1 : Int32), Rel σ → ∃ (r : Int32) (σ1 σ2 : lb_Mem), f_X8_deal x1 σ = some (r, σ1) ∧ f_X9_deal x1 σ1 = some (r, σ2) ∧ Rel σ2
set_option maxRecDepth 20000 in
theorem lc_821 {p : Program} {l : Launch} {e : Env} {s : State} {m : MethodId} {below : List Frame} {meth : Method} {c : Code} {G : lb_G} {b L k : Nat} {xs : Nat → Int32} (X : lb_C G p s m #[Value.ref b] meth c cL_law 4 RL (some .boolean)) (hX : va_X b L xs s s.heap) (hbl : b < s.heap.size) (hbA : ¬ lb_A G b) (hk : k + 5 < L) (hL : L ≤ 3072) {Rel : lb_Mem → Prop} (hst : lb_st_deal Rel) (hnx : ∀ (σ : lb_Mem) (H : Heap) (locs : List Loc) (ls : Array Slot), Rel σ → lb_W G s σ H locs → lv_has ls 4 [(0, .ref b), (1, .ref (lb_ad G 0)), (2, .ref (lb_ad G 53)), (3, .int (nI k))] → W p l e room_1 s m #[Value.ref b] below meth c H locs 62 739 (lw_Z below #[Value.ref b] s) (F0 m 1340 ls [])) : ∀ (σ : lb_Mem) (H : Heap) (locs : List Loc) (ls : Array Slot), Rel σ → lb_W G s σ H locs → lv_has ls 4 [(0, .ref b), (1, .ref (lb_ad G 0)), (2, .ref (lb_ad G 53)), (3, .int (nI k))] → W p l e room_1 s m #[Value.ref b] below meth c H locs 62 739 (lw_Z below #[Value.ref b] s) (F0 m 821 ls []) := by
  have hx := X.1
  have hb := X.2.1
  obtain ⟨i0, i1, i2, i3, i4, i5⟩ := lb_scr hk hL
  intro σ H locs ls hr hW hl
  obtain ⟨r, σ1, σ2, h1, h2, hr2⟩ := hst σ (xs (nI k + 1).toNatClampNeg) hr
  refine lv_aload_n hx hb dL_law_821 rfl (lv_at hl 1 rfl) ?_
  refine lv_aload_n hx hb dL_law_822 rfl (lv_at hl 0 rfl) ?_
  refine lv_iload_n hx hb dL_law_823 rfl (lv_at hl 3 rfl) ?_
  refine lv_iconst (v := 1) hx hb dL_law_824 rfl ?_
  refine lv_iadd hx hb dL_law_825 ?_
  refine va_sld hx hb hX hbl hbA hW.2 i1 dL_law_826 ?_
  refine rc_L_101 X hW h1 ⟨⟨rfl, rfl⟩, Nat.le_of_ble_eq_true rfl, Nat.le_of_ble_eq_true rfl⟩ hl.1 (Nat.le_of_ble_eq_true rfl) dL_law_827 ⟨Nat.le_of_ble_eq_true rfl, Nat.le_of_ble_eq_true rfl⟩ (fun H locs hW => ?_)
  refine lv_aload_n hx hb dL_law_830 rfl (lv_at hl 2 rfl) ?_
  refine lv_aload_n hx hb dL_law_831 rfl (lv_at hl 0 rfl) ?_
  refine lv_iload_n hx hb dL_law_832 rfl (lv_at hl 3 rfl) ?_
  refine lv_iconst (v := 1) hx hb dL_law_833 rfl ?_
  refine lv_iadd hx hb dL_law_834 ?_
  refine va_sld hx hb hX hbl hbA hW.2 i1 dL_law_835 ?_
  refine rc_L_104 X hW h2 ⟨⟨rfl, rfl⟩, Nat.le_of_ble_eq_true rfl, Nat.le_of_ble_eq_true rfl⟩ hl.1 (Nat.le_of_ble_eq_true rfl) dL_law_836 ⟨Nat.le_of_ble_eq_true rfl, Nat.le_of_ble_eq_true rfl⟩ (fun H locs hW => ?_)
  refine lv_icmp_eq (tgt := 1340) hx hb dL_law_839 (by decide) (fun _ => ?_) (fun z => absurd rfl z)
  exact hnx σ2 _ _ _ hr2 hW (lv_sub hl [0, 1, 2, 3] rfl)
theorem rc_L_105 {p : Program} {l : Launch} {e : Env} {R : Room} {s : State} {m : MethodId} {args : Array Value} {below : List Frame} {meth : Method} {c : Code} {H : Heap} {locs : List Loc} {cells slots : Nat} {Q : State → Prop} {cc : ByteArray} {pc nL : Nat} {ls : Array Slot} {rest : List Value} {G : lb_G} {σ : lb_Mem} {ret : Option FieldType} (X : lb_C G p s m args meth c cc nL RL ret) (hW : lb_W G s σ H locs) {x1 : Int32} {qr : (Int32 × lb_Mem)} (h : f_X8_worst x1 σ = some qr) (hR : lb_room rmX8_worst R 7) (hls : ls.size = nL) (hrest : (rest.map fun v => v.category).sum ≤ 8) (d : decode cc pc = .ok (.invokevirtual 105, 3)) (hcap : cells ≤ R.cells ∧ slots ≤ R.slots) (kk : ∀ (H1 : Heap) (locs1 : List Loc), lb_W G s qr.2 H1 locs1 → W p l e R s m args below meth c H1 locs1 cells slots Q (F0 m (pc + 3) ls (.int qr.1 :: rest))) : W p l e R s m args below meth c H locs cells slots Q (F0 m pc ls (.int x1 :: .ref (lb_ad G 0) :: rest)) :=
  lb_goI hW (lb_runV (As := [.int x1]) X hW (m_X8_worst l G σ x1 qr h) (n := 1) ⟨qw_599, qw_43, qw_602, by decide +kernel⟩ hR qw_600 qw_601 lb_is0 rfl hls hrest d hcap) kk
theorem rc_L_108 {p : Program} {l : Launch} {e : Env} {R : Room} {s : State} {m : MethodId} {args : Array Value} {below : List Frame} {meth : Method} {c : Code} {H : Heap} {locs : List Loc} {cells slots : Nat} {Q : State → Prop} {cc : ByteArray} {pc nL : Nat} {ls : Array Slot} {rest : List Value} {G : lb_G} {σ : lb_Mem} {ret : Option FieldType} (X : lb_C G p s m args meth c cc nL RL ret) (hW : lb_W G s σ H locs) {x1 : Int32} {qr : (Int32 × lb_Mem)} (h : f_X9_worst x1 σ = some qr) (hR : lb_room rmX9_worst R 4) (hls : ls.size = nL) (hrest : (rest.map fun v => v.category).sum ≤ 8) (d : decode cc pc = .ok (.invokevirtual 108, 3)) (hcap : cells ≤ R.cells ∧ slots ≤ R.slots) (kk : ∀ (H1 : Heap) (locs1 : List Loc), lb_W G s qr.2 H1 locs1 → W p l e R s m args below meth c H1 locs1 cells slots Q (F0 m (pc + 3) ls (.int qr.1 :: rest))) : W p l e R s m args below meth c H locs cells slots Q (F0 m pc ls (.int x1 :: .ref (lb_ad G 53) :: rest)) :=
  lb_goI hW (lb_runV (As := [.int x1]) X hW (m_X9_worst l G σ x1 qr h) (n := 1) ⟨qw_1013, qw_52, qw_1016, by decide +kernel⟩ hR qw_1014 qw_1015 lb_is53 rfl hls hrest d hcap) kk
def lb_st_worst (Rel : lb_Mem → Prop) : Prop := ∀ (σ : lb_Mem) (x1 : Int32), Rel σ → ∃ (r : Int32) (σ1 σ2 : lb_Mem), f_X8_worst x1 σ = some (r, σ1) ∧ f_X9_worst x1 σ1 = some (r, σ2) ∧ Rel σ2
set_option maxRecDepth 20000 in
theorem lc_844 {p : Program} {l : Launch} {e : Env} {s : State} {m : MethodId} {below : List Frame} {meth : Method} {c : Code} {G : lb_G} {b L k : Nat} {xs : Nat → Int32} (X : lb_C G p s m #[Value.ref b] meth c cL_law 4 RL (some .boolean)) (hX : va_X b L xs s s.heap) (hbl : b < s.heap.size) (hbA : ¬ lb_A G b) (hk : k + 5 < L) (hL : L ≤ 3072) {Rel : lb_Mem → Prop} (hst : lb_st_worst Rel) (hnx : ∀ (σ : lb_Mem) (H : Heap) (locs : List Loc) (ls : Array Slot), Rel σ → lb_W G s σ H locs → lv_has ls 4 [(0, .ref b), (1, .ref (lb_ad G 0)), (2, .ref (lb_ad G 53)), (3, .int (nI k))] → W p l e room_1 s m #[Value.ref b] below meth c H locs 62 739 (lw_Z below #[Value.ref b] s) (F0 m 1340 ls [])) : ∀ (σ : lb_Mem) (H : Heap) (locs : List Loc) (ls : Array Slot), Rel σ → lb_W G s σ H locs → lv_has ls 4 [(0, .ref b), (1, .ref (lb_ad G 0)), (2, .ref (lb_ad G 53)), (3, .int (nI k))] → W p l e room_1 s m #[Value.ref b] below meth c H locs 62 739 (lw_Z below #[Value.ref b] s) (F0 m 844 ls []) := by
  have hx := X.1
  have hb := X.2.1
  obtain ⟨i0, i1, i2, i3, i4, i5⟩ := lb_scr hk hL
  intro σ H locs ls hr hW hl
  obtain ⟨r, σ1, σ2, h1, h2, hr2⟩ := hst σ (xs (nI k + 1).toNatClampNeg) hr
  refine lv_aload_n hx hb dL_law_844 rfl (lv_at hl 1 rfl) ?_
  refine lv_aload_n hx hb dL_law_845 rfl (lv_at hl 0 rfl) ?_
  refine lv_iload_n hx hb dL_law_846 rfl (lv_at hl 3 rfl) ?_
  refine lv_iconst (v := 1) hx hb dL_law_847 rfl ?_
  refine lv_iadd hx hb dL_law_848 ?_
  refine va_sld hx hb hX hbl hbA hW.2 i1 dL_law_849 ?_
  refine rc_L_105 X hW h1 ⟨⟨rfl, rfl⟩, Nat.le_of_ble_eq_true rfl, Nat.le_of_ble_eq_true rfl⟩ hl.1 (Nat.le_of_ble_eq_true rfl) dL_law_850 ⟨Nat.le_of_ble_eq_true rfl, Nat.le_of_ble_eq_true rfl⟩ (fun H locs hW => ?_)
  refine lv_aload_n hx hb dL_law_853 rfl (lv_at hl 2 rfl) ?_
  refine lv_aload_n hx hb dL_law_854 rfl (lv_at hl 0 rfl) ?_
  refine lv_iload_n hx hb dL_law_855 rfl (lv_at hl 3 rfl) ?_
  refine lv_iconst (v := 1) hx hb dL_law_856 rfl ?_
  refine lv_iadd hx hb dL_law_857 ?_
  refine va_sld hx hb hX hbl hbA hW.2 i1 dL_law_858 ?_
  refine rc_L_108 X hW h2 ⟨⟨rfl, rfl⟩, Nat.le_of_ble_eq_true rfl, Nat.le_of_ble_eq_true rfl⟩ hl.1 (Nat.le_of_ble_eq_true rfl) dL_law_859 ⟨Nat.le_of_ble_eq_true rfl, Nat.le_of_ble_eq_true rfl⟩ (fun H locs hW => ?_)
  refine lv_icmp_eq (tgt := 1340) hx hb dL_law_862 (by decide) (fun _ => ?_) (fun z => absurd rfl z)
  exact hnx σ2 _ _ _ hr2 hW (lv_sub hl [0, 1, 2, 3] rfl)
theorem rc_L_109 {p : Program} {l : Launch} {e : Env} {R : Room} {s : State} {m : MethodId} {args : Array Value} {below : List Frame} {meth : Method} {c : Code} {H : Heap} {locs : List Loc} {cells slots : Nat} {Q : State → Prop} {cc : ByteArray} {pc nL : Nat} {ls : Array Slot} {rest : List Value} {G : lb_G} {σ : lb_Mem} {ret : Option FieldType} (X : lb_C G p s m args meth c cc nL RL ret) (hW : lb_W G s σ H locs) {x1 : Int32} {qr : (Int32 × lb_Mem)} (h : f_X8_trust x1 σ = some qr) (hR : lb_room rmX8_trust R 5) (hls : ls.size = nL) (hrest : (rest.map fun v => v.category).sum ≤ 8) (d : decode cc pc = .ok (.invokevirtual 109, 3)) (hcap : cells ≤ R.cells ∧ slots ≤ R.slots) (kk : ∀ (H1 : Heap) (locs1 : List Loc), lb_W G s qr.2 H1 locs1 → W p l e R s m args below meth c H1 locs1 cells slots Q (F0 m (pc + 3) ls (.int qr.1 :: rest))) : W p l e R s m args below meth c H locs cells slots Q (F0 m pc ls (.int x1 :: .ref (lb_ad G 0) :: rest)) :=
  lb_goI hW (lb_runV (As := [.int x1]) X hW (m_X8_trust l G σ x1 qr h) (n := 1) ⟨qw_603, qw_43, qw_606, by decide +kernel⟩ hR qw_604 qw_605 lb_is0 rfl hls hrest d hcap) kk
theorem rc_L_112 {p : Program} {l : Launch} {e : Env} {R : Room} {s : State} {m : MethodId} {args : Array Value} {below : List Frame} {meth : Method} {c : Code} {H : Heap} {locs : List Loc} {cells slots : Nat} {Q : State → Prop} {cc : ByteArray} {pc nL : Nat} {ls : Array Slot} {rest : List Value} {G : lb_G} {σ : lb_Mem} {ret : Option FieldType} (X : lb_C G p s m args meth c cc nL RL ret) (hW : lb_W G s σ H locs) {x1 : Int32} {qr : (Int32 × lb_Mem)} (h : f_X9_trust x1 σ = some qr) (hR : lb_room rmX9_trust R 4) (hls : ls.size = nL) (hrest : (rest.map fun v => v.category).sum ≤ 8) (d : decode cc pc = .ok (.invokevirtual 112, 3)) (hcap : cells ≤ R.cells ∧ slots ≤ R.slots) (kk : ∀ (H1 : Heap) (locs1 : List Loc), lb_W G s qr.2 H1 locs1 → W p l e R s m args below meth c H1 locs1 cells slots Q (F0 m (pc + 3) ls (.int qr.1 :: rest))) : W p l e R s m args below meth c H locs cells slots Q (F0 m pc ls (.int x1 :: .ref (lb_ad G 53) :: rest)) :=
  lb_goI hW (lb_runV (As := [.int x1]) X hW (m_X9_trust l G σ x1 qr h) (n := 1) ⟨qw_1021, qw_52, qw_1024, by decide +kernel⟩ hR qw_1022 qw_1023 lb_is53 rfl hls hrest d hcap) kk
def lb_st_trust (Rel : lb_Mem → Prop) : Prop := ∀ (σ : lb_Mem) (x1 : Int32), Rel σ → ∃ (r : Int32) (σ1 σ2 : lb_Mem), f_X8_trust x1 σ = some (r, σ1) ∧ f_X9_trust x1 σ1 = some (r, σ2) ∧ Rel σ2
set_option maxRecDepth 20000 in
theorem lc_867 {p : Program} {l : Launch} {e : Env} {s : State} {m : MethodId} {below : List Frame} {meth : Method} {c : Code} {G : lb_G} {b L k : Nat} {xs : Nat → Int32} (X : lb_C G p s m #[Value.ref b] meth c cL_law 4 RL (some .boolean)) (hX : va_X b L xs s s.heap) (hbl : b < s.heap.size) (hbA : ¬ lb_A G b) (hk : k + 5 < L) (hL : L ≤ 3072) {Rel : lb_Mem → Prop} (hst : lb_st_trust Rel) (hnx : ∀ (σ : lb_Mem) (H : Heap) (locs : List Loc) (ls : Array Slot), Rel σ → lb_W G s σ H locs → lv_has ls 4 [(0, .ref b), (1, .ref (lb_ad G 0)), (2, .ref (lb_ad G 53)), (3, .int (nI k))] → W p l e room_1 s m #[Value.ref b] below meth c H locs 62 739 (lw_Z below #[Value.ref b] s) (F0 m 1340 ls [])) : ∀ (σ : lb_Mem) (H : Heap) (locs : List Loc) (ls : Array Slot), Rel σ → lb_W G s σ H locs → lv_has ls 4 [(0, .ref b), (1, .ref (lb_ad G 0)), (2, .ref (lb_ad G 53)), (3, .int (nI k))] → W p l e room_1 s m #[Value.ref b] below meth c H locs 62 739 (lw_Z below #[Value.ref b] s) (F0 m 867 ls []) := by
  have hx := X.1
  have hb := X.2.1
  obtain ⟨i0, i1, i2, i3, i4, i5⟩ := lb_scr hk hL
  intro σ H locs ls hr hW hl
  obtain ⟨r, σ1, σ2, h1, h2, hr2⟩ := hst σ (xs (nI k + 1).toNatClampNeg) hr
  refine lv_aload_n hx hb dL_law_867 rfl (lv_at hl 1 rfl) ?_
  refine lv_aload_n hx hb dL_law_868 rfl (lv_at hl 0 rfl) ?_
  refine lv_iload_n hx hb dL_law_869 rfl (lv_at hl 3 rfl) ?_
  refine lv_iconst (v := 1) hx hb dL_law_870 rfl ?_
  refine lv_iadd hx hb dL_law_871 ?_
  refine va_sld hx hb hX hbl hbA hW.2 i1 dL_law_872 ?_
  refine rc_L_109 X hW h1 ⟨⟨rfl, rfl⟩, Nat.le_of_ble_eq_true rfl, Nat.le_of_ble_eq_true rfl⟩ hl.1 (Nat.le_of_ble_eq_true rfl) dL_law_873 ⟨Nat.le_of_ble_eq_true rfl, Nat.le_of_ble_eq_true rfl⟩ (fun H locs hW => ?_)
  refine lv_aload_n hx hb dL_law_876 rfl (lv_at hl 2 rfl) ?_
  refine lv_aload_n hx hb dL_law_877 rfl (lv_at hl 0 rfl) ?_
  refine lv_iload_n hx hb dL_law_878 rfl (lv_at hl 3 rfl) ?_
  refine lv_iconst (v := 1) hx hb dL_law_879 rfl ?_
  refine lv_iadd hx hb dL_law_880 ?_
  refine va_sld hx hb hX hbl hbA hW.2 i1 dL_law_881 ?_
  refine rc_L_112 X hW h2 ⟨⟨rfl, rfl⟩, Nat.le_of_ble_eq_true rfl, Nat.le_of_ble_eq_true rfl⟩ hl.1 (Nat.le_of_ble_eq_true rfl) dL_law_882 ⟨Nat.le_of_ble_eq_true rfl, Nat.le_of_ble_eq_true rfl⟩ (fun H locs hW => ?_)
  refine lv_icmp_eq (tgt := 1340) hx hb dL_law_885 (by decide) (fun _ => ?_) (fun z => absurd rfl z)
  exact hnx σ2 _ _ _ hr2 hW (lv_sub hl [0, 1, 2, 3] rfl)
theorem rc_L_113 {p : Program} {l : Launch} {e : Env} {R : Room} {s : State} {m : MethodId} {args : Array Value} {below : List Frame} {meth : Method} {c : Code} {H : Heap} {locs : List Loc} {cells slots : Nat} {Q : State → Prop} {cc : ByteArray} {pc nL : Nat} {ls : Array Slot} {rest : List Value} {G : lb_G} {σ : lb_Mem} {ret : Option FieldType} (X : lb_C G p s m args meth c cc nL RL ret) (hW : lb_W G s σ H locs) {x1 : Int32} {x2 : Int32} {qr : (Int32 × lb_Mem)} (h : f_X8_shelf x1 x2 σ = some qr) (hR : lb_room rmX8_shelf R 7) (hls : ls.size = nL) (hrest : (rest.map fun v => v.category).sum ≤ 8) (d : decode cc pc = .ok (.invokevirtual 113, 3)) (hcap : cells ≤ R.cells ∧ slots ≤ R.slots) (kk : ∀ (H1 : Heap) (locs1 : List Loc), lb_W G s qr.2 H1 locs1 → W p l e R s m args below meth c H1 locs1 cells slots Q (F0 m (pc + 3) ls (.int qr.1 :: rest))) : W p l e R s m args below meth c H locs cells slots Q (F0 m pc ls (.int x2 :: .int x1 :: .ref (lb_ad G 0) :: rest)) :=
  lb_goI hW (lb_runV (As := [.int x1, .int x2]) X hW (m_X8_shelf l G σ x1 x2 qr h) (n := 2) ⟨qw_608, qw_43, qw_611, by decide +kernel⟩ hR qw_609 qw_610 lb_is0 rfl hls hrest d hcap) kk
theorem rc_L_116 {p : Program} {l : Launch} {e : Env} {R : Room} {s : State} {m : MethodId} {args : Array Value} {below : List Frame} {meth : Method} {c : Code} {H : Heap} {locs : List Loc} {cells slots : Nat} {Q : State → Prop} {cc : ByteArray} {pc nL : Nat} {ls : Array Slot} {rest : List Value} {G : lb_G} {σ : lb_Mem} {ret : Option FieldType} (X : lb_C G p s m args meth c cc nL RL ret) (hW : lb_W G s σ H locs) {x1 : Int32} {x2 : Int32} {qr : (Int32 × lb_Mem)} (h : f_X9_shelf x1 x2 σ = some qr) (hR : lb_room rmX9_shelf R 6) (hls : ls.size = nL) (hrest : (rest.map fun v => v.category).sum ≤ 8) (d : decode cc pc = .ok (.invokevirtual 116, 3)) (hcap : cells ≤ R.cells ∧ slots ≤ R.slots) (kk : ∀ (H1 : Heap) (locs1 : List Loc), lb_W G s qr.2 H1 locs1 → W p l e R s m args below meth c H1 locs1 cells slots Q (F0 m (pc + 3) ls (.int qr.1 :: rest))) : W p l e R s m args below meth c H locs cells slots Q (F0 m pc ls (.int x2 :: .int x1 :: .ref (lb_ad G 53) :: rest)) :=
  lb_goI hW (lb_runV (As := [.int x1, .int x2]) X hW (m_X9_shelf l G σ x1 x2 qr h) (n := 2) ⟨qw_1025, qw_52, qw_1028, by decide +kernel⟩ hR qw_1026 qw_1027 lb_is53 rfl hls hrest d hcap) kk
def lb_st_shelf (Rel : lb_Mem → Prop) : Prop := ∀ (σ : lb_Mem) (x1 : Int32) (x2 : Int32), Rel σ → ∃ (r : Int32) (σ1 σ2 : lb_Mem), f_X8_shelf x1 x2 σ = some (r, σ1) ∧ f_X9_shelf x1 x2 σ1 = some (r, σ2) ∧ Rel σ2
set_option maxRecDepth 20000 in
theorem lc_890 {p : Program} {l : Launch} {e : Env} {s : State} {m : MethodId} {below : List Frame} {meth : Method} {c : Code} {G : lb_G} {b L k : Nat} {xs : Nat → Int32} (X : lb_C G p s m #[Value.ref b] meth c cL_law 4 RL (some .boolean)) (hX : va_X b L xs s s.heap) (hbl : b < s.heap.size) (hbA : ¬ lb_A G b) (hk : k + 5 < L) (hL : L ≤ 3072) {Rel : lb_Mem → Prop} (hst : lb_st_shelf Rel) (hnx : ∀ (σ : lb_Mem) (H : Heap) (locs : List Loc) (ls : Array Slot), Rel σ → lb_W G s σ H locs → lv_has ls 4 [(0, .ref b), (1, .ref (lb_ad G 0)), (2, .ref (lb_ad G 53)), (3, .int (nI k))] → W p l e room_1 s m #[Value.ref b] below meth c H locs 62 739 (lw_Z below #[Value.ref b] s) (F0 m 1340 ls [])) : ∀ (σ : lb_Mem) (H : Heap) (locs : List Loc) (ls : Array Slot), Rel σ → lb_W G s σ H locs → lv_has ls 4 [(0, .ref b), (1, .ref (lb_ad G 0)), (2, .ref (lb_ad G 53)), (3, .int (nI k))] → W p l e room_1 s m #[Value.ref b] below meth c H locs 62 739 (lw_Z below #[Value.ref b] s) (F0 m 890 ls []) := by
  have hx := X.1
  have hb := X.2.1
  obtain ⟨i0, i1, i2, i3, i4, i5⟩ := lb_scr hk hL
  intro σ H locs ls hr hW hl
  obtain ⟨r, σ1, σ2, h1, h2, hr2⟩ := hst σ (xs (nI k + 1).toNatClampNeg) (xs (nI k + 2).toNatClampNeg) hr
  refine lv_aload_n hx hb dL_law_890 rfl (lv_at hl 1 rfl) ?_
  refine lv_aload_n hx hb dL_law_891 rfl (lv_at hl 0 rfl) ?_
  refine lv_iload_n hx hb dL_law_892 rfl (lv_at hl 3 rfl) ?_
  refine lv_iconst (v := 1) hx hb dL_law_893 rfl ?_
  refine lv_iadd hx hb dL_law_894 ?_
  refine va_sld hx hb hX hbl hbA hW.2 i1 dL_law_895 ?_
  refine lv_aload_n hx hb dL_law_896 rfl (lv_at hl 0 rfl) ?_
  refine lv_iload_n hx hb dL_law_897 rfl (lv_at hl 3 rfl) ?_
  refine lv_iconst (v := 2) hx hb dL_law_898 rfl ?_
  refine lv_iadd hx hb dL_law_899 ?_
  refine va_sld hx hb hX hbl hbA hW.2 i2 dL_law_900 ?_
  refine rc_L_113 X hW h1 ⟨⟨rfl, rfl⟩, Nat.le_of_ble_eq_true rfl, Nat.le_of_ble_eq_true rfl⟩ hl.1 (Nat.le_of_ble_eq_true rfl) dL_law_901 ⟨Nat.le_of_ble_eq_true rfl, Nat.le_of_ble_eq_true rfl⟩ (fun H locs hW => ?_)
  refine lv_aload_n hx hb dL_law_904 rfl (lv_at hl 2 rfl) ?_
  refine lv_aload_n hx hb dL_law_905 rfl (lv_at hl 0 rfl) ?_
  refine lv_iload_n hx hb dL_law_906 rfl (lv_at hl 3 rfl) ?_
  refine lv_iconst (v := 1) hx hb dL_law_907 rfl ?_
  refine lv_iadd hx hb dL_law_908 ?_
  refine va_sld hx hb hX hbl hbA hW.2 i1 dL_law_909 ?_
  refine lv_aload_n hx hb dL_law_910 rfl (lv_at hl 0 rfl) ?_
  refine lv_iload_n hx hb dL_law_911 rfl (lv_at hl 3 rfl) ?_
  refine lv_iconst (v := 2) hx hb dL_law_912 rfl ?_
  refine lv_iadd hx hb dL_law_913 ?_
  refine va_sld hx hb hX hbl hbA hW.2 i2 dL_law_914 ?_
  refine rc_L_116 X hW h2 ⟨⟨rfl, rfl⟩, Nat.le_of_ble_eq_true rfl, Nat.le_of_ble_eq_true rfl⟩ hl.1 (Nat.le_of_ble_eq_true rfl) dL_law_915 ⟨Nat.le_of_ble_eq_true rfl, Nat.le_of_ble_eq_true rfl⟩ (fun H locs hW => ?_)
  refine lv_icmp_eq (tgt := 1340) hx hb dL_law_918 (by decide) (fun _ => ?_) (fun z => absurd rfl z)
  exact hnx σ2 _ _ _ hr2 hW (lv_sub hl [0, 1, 2, 3] rfl)
theorem rc_L_117 {p : Program} {l : Launch} {e : Env} {R : Room} {s : State} {m : MethodId} {args : Array Value} {below : List Frame} {meth : Method} {c : Code} {H : Heap} {locs : List Loc} {cells slots : Nat} {Q : State → Prop} {cc : ByteArray} {pc nL : Nat} {ls : Array Slot} {rest : List Value} {G : lb_G} {σ : lb_Mem} {ret : Option FieldType} (X : lb_C G p s m args meth c cc nL RL ret) (hW : lb_W G s σ H locs) {x1 : Int32} {qr : (Int32 × lb_Mem)} (h : f_X8_sorts x1 σ = some qr) (hR : lb_room rmX8_sorts R 3) (hls : ls.size = nL) (hrest : (rest.map fun v => v.category).sum ≤ 8) (d : decode cc pc = .ok (.invokevirtual 117, 3)) (hcap : cells ≤ R.cells ∧ slots ≤ R.slots) (kk : ∀ (H1 : Heap) (locs1 : List Loc), lb_W G s qr.2 H1 locs1 → W p l e R s m args below meth c H1 locs1 cells slots Q (F0 m (pc + 3) ls (.int qr.1 :: rest))) : W p l e R s m args below meth c H locs cells slots Q (F0 m pc ls (.int x1 :: .ref (lb_ad G 0) :: rest)) :=
  lb_goI hW (lb_runV (As := [.int x1]) X hW (m_X8_sorts l G σ x1 qr h) (n := 1) ⟨qw_612, qw_43, qw_615, by decide +kernel⟩ hR qw_613 qw_614 lb_is0 rfl hls hrest d hcap) kk
theorem rc_L_120 {p : Program} {l : Launch} {e : Env} {R : Room} {s : State} {m : MethodId} {args : Array Value} {below : List Frame} {meth : Method} {c : Code} {H : Heap} {locs : List Loc} {cells slots : Nat} {Q : State → Prop} {cc : ByteArray} {pc nL : Nat} {ls : Array Slot} {rest : List Value} {G : lb_G} {σ : lb_Mem} {ret : Option FieldType} (X : lb_C G p s m args meth c cc nL RL ret) (hW : lb_W G s σ H locs) {x1 : Int32} {qr : (Int32 × lb_Mem)} (h : f_X9_sorts x1 σ = some qr) (hR : lb_room rmX9_sorts R 6) (hls : ls.size = nL) (hrest : (rest.map fun v => v.category).sum ≤ 8) (d : decode cc pc = .ok (.invokevirtual 120, 3)) (hcap : cells ≤ R.cells ∧ slots ≤ R.slots) (kk : ∀ (H1 : Heap) (locs1 : List Loc), lb_W G s qr.2 H1 locs1 → W p l e R s m args below meth c H1 locs1 cells slots Q (F0 m (pc + 3) ls (.int qr.1 :: rest))) : W p l e R s m args below meth c H locs cells slots Q (F0 m pc ls (.int x1 :: .ref (lb_ad G 53) :: rest)) :=
  lb_goI hW (lb_runV (As := [.int x1]) X hW (m_X9_sorts l G σ x1 qr h) (n := 1) ⟨qw_1029, qw_52, qw_1032, by decide +kernel⟩ hR qw_1030 qw_1031 lb_is53 rfl hls hrest d hcap) kk
def lb_st_sorts (Rel : lb_Mem → Prop) : Prop := ∀ (σ : lb_Mem) (x1 : Int32), Rel σ → ∃ (r : Int32) (σ1 σ2 : lb_Mem), f_X8_sorts x1 σ = some (r, σ1) ∧ f_X9_sorts x1 σ1 = some (r, σ2) ∧ Rel σ2
set_option maxRecDepth 20000 in
theorem lc_923 {p : Program} {l : Launch} {e : Env} {s : State} {m : MethodId} {below : List Frame} {meth : Method} {c : Code} {G : lb_G} {b L k : Nat} {xs : Nat → Int32} (X : lb_C G p s m #[Value.ref b] meth c cL_law 4 RL (some .boolean)) (hX : va_X b L xs s s.heap) (hbl : b < s.heap.size) (hbA : ¬ lb_A G b) (hk : k + 5 < L) (hL : L ≤ 3072) {Rel : lb_Mem → Prop} (hst : lb_st_sorts Rel) (hnx : ∀ (σ : lb_Mem) (H : Heap) (locs : List Loc) (ls : Array Slot), Rel σ → lb_W G s σ H locs → lv_has ls 4 [(0, .ref b), (1, .ref (lb_ad G 0)), (2, .ref (lb_ad G 53)), (3, .int (nI k))] → W p l e room_1 s m #[Value.ref b] below meth c H locs 62 739 (lw_Z below #[Value.ref b] s) (F0 m 1340 ls [])) : ∀ (σ : lb_Mem) (H : Heap) (locs : List Loc) (ls : Array Slot), Rel σ → lb_W G s σ H locs → lv_has ls 4 [(0, .ref b), (1, .ref (lb_ad G 0)), (2, .ref (lb_ad G 53)), (3, .int (nI k))] → W p l e room_1 s m #[Value.ref b] below meth c H locs 62 739 (lw_Z below #[Value.ref b] s) (F0 m 923 ls []) := by
  have hx := X.1
  have hb := X.2.1
  obtain ⟨i0, i1, i2, i3, i4, i5⟩ := lb_scr hk hL
  intro σ H locs ls hr hW hl
  obtain ⟨r, σ1, σ2, h1, h2, hr2⟩ := hst σ (xs (nI k + 1).toNatClampNeg) hr
  refine lv_aload_n hx hb dL_law_923 rfl (lv_at hl 1 rfl) ?_
  refine lv_aload_n hx hb dL_law_924 rfl (lv_at hl 0 rfl) ?_
  refine lv_iload_n hx hb dL_law_925 rfl (lv_at hl 3 rfl) ?_
  refine lv_iconst (v := 1) hx hb dL_law_926 rfl ?_
  refine lv_iadd hx hb dL_law_927 ?_
  refine va_sld hx hb hX hbl hbA hW.2 i1 dL_law_928 ?_
  refine rc_L_117 X hW h1 ⟨⟨rfl, rfl⟩, Nat.le_of_ble_eq_true rfl, Nat.le_of_ble_eq_true rfl⟩ hl.1 (Nat.le_of_ble_eq_true rfl) dL_law_929 ⟨Nat.le_of_ble_eq_true rfl, Nat.le_of_ble_eq_true rfl⟩ (fun H locs hW => ?_)
  refine lv_aload_n hx hb dL_law_932 rfl (lv_at hl 2 rfl) ?_
  refine lv_aload_n hx hb dL_law_933 rfl (lv_at hl 0 rfl) ?_
  refine lv_iload_n hx hb dL_law_934 rfl (lv_at hl 3 rfl) ?_
  refine lv_iconst (v := 1) hx hb dL_law_935 rfl ?_
  refine lv_iadd hx hb dL_law_936 ?_
  refine va_sld hx hb hX hbl hbA hW.2 i1 dL_law_937 ?_
  refine rc_L_120 X hW h2 ⟨⟨rfl, rfl⟩, Nat.le_of_ble_eq_true rfl, Nat.le_of_ble_eq_true rfl⟩ hl.1 (Nat.le_of_ble_eq_true rfl) dL_law_938 ⟨Nat.le_of_ble_eq_true rfl, Nat.le_of_ble_eq_true rfl⟩ (fun H locs hW => ?_)
  refine lv_icmp_eq (tgt := 1340) hx hb dL_law_941 (by decide) (fun _ => ?_) (fun z => absurd rfl z)
  exact hnx σ2 _ _ _ hr2 hW (lv_sub hl [0, 1, 2, 3] rfl)
theorem rc_L_121 {p : Program} {l : Launch} {e : Env} {R : Room} {s : State} {m : MethodId} {args : Array Value} {below : List Frame} {meth : Method} {c : Code} {H : Heap} {locs : List Loc} {cells slots : Nat} {Q : State → Prop} {cc : ByteArray} {pc nL : Nat} {ls : Array Slot} {rest : List Value} {G : lb_G} {σ : lb_Mem} {ret : Option FieldType} (X : lb_C G p s m args meth c cc nL RL ret) (hW : lb_W G s σ H locs) {x1 : Int32} {qr : (Int32 × lb_Mem)} (h : f_X8_fewest x1 σ = some qr) (hR : lb_room rmX8_fewest R 6) (hls : ls.size = nL) (hrest : (rest.map fun v => v.category).sum ≤ 8) (d : decode cc pc = .ok (.invokevirtual 121, 3)) (hcap : cells ≤ R.cells ∧ slots ≤ R.slots) (kk : ∀ (H1 : Heap) (locs1 : List Loc), lb_W G s qr.2 H1 locs1 → W p l e R s m args below meth c H1 locs1 cells slots Q (F0 m (pc + 3) ls (.int qr.1 :: rest))) : W p l e R s m args below meth c H locs cells slots Q (F0 m pc ls (.int x1 :: .ref (lb_ad G 0) :: rest)) :=
  lb_goI hW (lb_runV (As := [.int x1]) X hW (m_X8_fewest l G σ x1 qr h) (n := 1) ⟨qw_632, qw_43, qw_635, by decide +kernel⟩ hR qw_633 qw_634 lb_is0 rfl hls hrest d hcap) kk
theorem rc_L_124 {p : Program} {l : Launch} {e : Env} {R : Room} {s : State} {m : MethodId} {args : Array Value} {below : List Frame} {meth : Method} {c : Code} {H : Heap} {locs : List Loc} {cells slots : Nat} {Q : State → Prop} {cc : ByteArray} {pc nL : Nat} {ls : Array Slot} {rest : List Value} {G : lb_G} {σ : lb_Mem} {ret : Option FieldType} (X : lb_C G p s m args meth c cc nL RL ret) (hW : lb_W G s σ H locs) {x1 : Int32} {qr : (Int32 × lb_Mem)} (h : f_X9_fewest x1 σ = some qr) (hR : lb_room rmX9_fewest R 6) (hls : ls.size = nL) (hrest : (rest.map fun v => v.category).sum ≤ 8) (d : decode cc pc = .ok (.invokevirtual 124, 3)) (hcap : cells ≤ R.cells ∧ slots ≤ R.slots) (kk : ∀ (H1 : Heap) (locs1 : List Loc), lb_W G s qr.2 H1 locs1 → W p l e R s m args below meth c H1 locs1 cells slots Q (F0 m (pc + 3) ls (.int qr.1 :: rest))) : W p l e R s m args below meth c H locs cells slots Q (F0 m pc ls (.int x1 :: .ref (lb_ad G 53) :: rest)) :=
  lb_goI hW (lb_runV (As := [.int x1]) X hW (m_X9_fewest l G σ x1 qr h) (n := 1) ⟨qw_1037, qw_52, qw_1040, by decide +kernel⟩ hR qw_1038 qw_1039 lb_is53 rfl hls hrest d hcap) kk
def lb_st_fewest (Rel : lb_Mem → Prop) : Prop := ∀ (σ : lb_Mem) (x1 : Int32), Rel σ → ∃ (r : Int32) (σ1 σ2 : lb_Mem), f_X8_fewest x1 σ = some (r, σ1) ∧ f_X9_fewest x1 σ1 = some (r, σ2) ∧ Rel σ2
set_option maxRecDepth 20000 in
theorem lc_946 {p : Program} {l : Launch} {e : Env} {s : State} {m : MethodId} {below : List Frame} {meth : Method} {c : Code} {G : lb_G} {b L k : Nat} {xs : Nat → Int32} (X : lb_C G p s m #[Value.ref b] meth c cL_law 4 RL (some .boolean)) (hX : va_X b L xs s s.heap) (hbl : b < s.heap.size) (hbA : ¬ lb_A G b) (hk : k + 5 < L) (hL : L ≤ 3072) {Rel : lb_Mem → Prop} (hst : lb_st_fewest Rel) (hnx : ∀ (σ : lb_Mem) (H : Heap) (locs : List Loc) (ls : Array Slot), Rel σ → lb_W G s σ H locs → lv_has ls 4 [(0, .ref b), (1, .ref (lb_ad G 0)), (2, .ref (lb_ad G 53)), (3, .int (nI k))] → W p l e room_1 s m #[Value.ref b] below meth c H locs 62 739 (lw_Z below #[Value.ref b] s) (F0 m 1340 ls [])) : ∀ (σ : lb_Mem) (H : Heap) (locs : List Loc) (ls : Array Slot), Rel σ → lb_W G s σ H locs → lv_has ls 4 [(0, .ref b), (1, .ref (lb_ad G 0)), (2, .ref (lb_ad G 53)), (3, .int (nI k))] → W p l e room_1 s m #[Value.ref b] below meth c H locs 62 739 (lw_Z below #[Value.ref b] s) (F0 m 946 ls []) := by
  have hx := X.1
  have hb := X.2.1
  obtain ⟨i0, i1, i2, i3, i4, i5⟩ := lb_scr hk hL
  intro σ H locs ls hr hW hl
  obtain ⟨r, σ1, σ2, h1, h2, hr2⟩ := hst σ (xs (nI k + 1).toNatClampNeg) hr
  refine lv_aload_n hx hb dL_law_946 rfl (lv_at hl 1 rfl) ?_
  refine lv_aload_n hx hb dL_law_947 rfl (lv_at hl 0 rfl) ?_
  refine lv_iload_n hx hb dL_law_948 rfl (lv_at hl 3 rfl) ?_
  refine lv_iconst (v := 1) hx hb dL_law_949 rfl ?_
  refine lv_iadd hx hb dL_law_950 ?_
  refine va_sld hx hb hX hbl hbA hW.2 i1 dL_law_951 ?_
  refine rc_L_121 X hW h1 ⟨⟨rfl, rfl⟩, Nat.le_of_ble_eq_true rfl, Nat.le_of_ble_eq_true rfl⟩ hl.1 (Nat.le_of_ble_eq_true rfl) dL_law_952 ⟨Nat.le_of_ble_eq_true rfl, Nat.le_of_ble_eq_true rfl⟩ (fun H locs hW => ?_)
  refine lv_aload_n hx hb dL_law_955 rfl (lv_at hl 2 rfl) ?_
  refine lv_aload_n hx hb dL_law_956 rfl (lv_at hl 0 rfl) ?_
  refine lv_iload_n hx hb dL_law_957 rfl (lv_at hl 3 rfl) ?_
  refine lv_iconst (v := 1) hx hb dL_law_958 rfl ?_
  refine lv_iadd hx hb dL_law_959 ?_
  refine va_sld hx hb hX hbl hbA hW.2 i1 dL_law_960 ?_
  refine rc_L_124 X hW h2 ⟨⟨rfl, rfl⟩, Nat.le_of_ble_eq_true rfl, Nat.le_of_ble_eq_true rfl⟩ hl.1 (Nat.le_of_ble_eq_true rfl) dL_law_961 ⟨Nat.le_of_ble_eq_true rfl, Nat.le_of_ble_eq_true rfl⟩ (fun H locs hW => ?_)
  refine lv_icmp_eq (tgt := 1340) hx hb dL_law_964 (by decide) (fun _ => ?_) (fun z => absurd rfl z)
  exact hnx σ2 _ _ _ hr2 hW (lv_sub hl [0, 1, 2, 3] rfl)
theorem rc_L_125 {p : Program} {l : Launch} {e : Env} {R : Room} {s : State} {m : MethodId} {args : Array Value} {below : List Frame} {meth : Method} {c : Code} {H : Heap} {locs : List Loc} {cells slots : Nat} {Q : State → Prop} {cc : ByteArray} {pc nL : Nat} {ls : Array Slot} {rest : List Value} {G : lb_G} {σ : lb_Mem} {ret : Option FieldType} (X : lb_C G p s m args meth c cc nL RL ret) (hW : lb_W G s σ H locs) {x1 : Int32} {x2 : Int32} {qr : (Int32 × lb_Mem)} (h : f_X8_warn x1 x2 σ = some qr) (hR : lb_room rmX8_warn R 8) (hls : ls.size = nL) (hrest : (rest.map fun v => v.category).sum ≤ 8) (d : decode cc pc = .ok (.invokevirtual 125, 3)) (hcap : cells ≤ R.cells ∧ slots ≤ R.slots) (kk : ∀ (H1 : Heap) (locs1 : List Loc), lb_W G s qr.2 H1 locs1 → W p l e R s m args below meth c H1 locs1 cells slots Q (F0 m (pc + 3) ls (.int qr.1 :: rest))) : W p l e R s m args below meth c H locs cells slots Q (F0 m pc ls (.int x2 :: .int x1 :: .ref (lb_ad G 0) :: rest)) :=
  lb_goI hW (lb_runV (As := [.int x1, .int x2]) X hW (m_X8_warn l G σ x1 x2 qr h) (n := 2) ⟨qw_650, qw_43, qw_653, by decide +kernel⟩ hR qw_651 qw_652 lb_is0 rfl hls hrest d hcap) kk
theorem rc_L_128 {p : Program} {l : Launch} {e : Env} {R : Room} {s : State} {m : MethodId} {args : Array Value} {below : List Frame} {meth : Method} {c : Code} {H : Heap} {locs : List Loc} {cells slots : Nat} {Q : State → Prop} {cc : ByteArray} {pc nL : Nat} {ls : Array Slot} {rest : List Value} {G : lb_G} {σ : lb_Mem} {ret : Option FieldType} (X : lb_C G p s m args meth c cc nL RL ret) (hW : lb_W G s σ H locs) {x1 : Int32} {x2 : Int32} {qr : (Int32 × lb_Mem)} (h : f_X9_warn x1 x2 σ = some qr) (hR : lb_room rmX9_warn R 7) (hls : ls.size = nL) (hrest : (rest.map fun v => v.category).sum ≤ 8) (d : decode cc pc = .ok (.invokevirtual 128, 3)) (hcap : cells ≤ R.cells ∧ slots ≤ R.slots) (kk : ∀ (H1 : Heap) (locs1 : List Loc), lb_W G s qr.2 H1 locs1 → W p l e R s m args below meth c H1 locs1 cells slots Q (F0 m (pc + 3) ls (.int qr.1 :: rest))) : W p l e R s m args below meth c H locs cells slots Q (F0 m pc ls (.int x2 :: .int x1 :: .ref (lb_ad G 53) :: rest)) :=
  lb_goI hW (lb_runV (As := [.int x1, .int x2]) X hW (m_X9_warn l G σ x1 x2 qr h) (n := 2) ⟨qw_1051, qw_52, qw_1054, by decide +kernel⟩ hR qw_1052 qw_1053 lb_is53 rfl hls hrest d hcap) kk
def lb_st_warn (Rel : lb_Mem → Prop) : Prop := ∀ (σ : lb_Mem) (x1 : Int32) (x2 : Int32), Rel σ → ∃ (r : Int32) (σ1 σ2 : lb_Mem), f_X8_warn x1 x2 σ = some (r, σ1) ∧ f_X9_warn x1 x2 σ1 = some (r, σ2) ∧ Rel σ2
set_option maxRecDepth 20000 in
theorem lc_969 {p : Program} {l : Launch} {e : Env} {s : State} {m : MethodId} {below : List Frame} {meth : Method} {c : Code} {G : lb_G} {b L k : Nat} {xs : Nat → Int32} (X : lb_C G p s m #[Value.ref b] meth c cL_law 4 RL (some .boolean)) (hX : va_X b L xs s s.heap) (hbl : b < s.heap.size) (hbA : ¬ lb_A G b) (hk : k + 5 < L) (hL : L ≤ 3072) {Rel : lb_Mem → Prop} (hst : lb_st_warn Rel) (hnx : ∀ (σ : lb_Mem) (H : Heap) (locs : List Loc) (ls : Array Slot), Rel σ → lb_W G s σ H locs → lv_has ls 4 [(0, .ref b), (1, .ref (lb_ad G 0)), (2, .ref (lb_ad G 53)), (3, .int (nI k))] → W p l e room_1 s m #[Value.ref b] below meth c H locs 62 739 (lw_Z below #[Value.ref b] s) (F0 m 1340 ls [])) : ∀ (σ : lb_Mem) (H : Heap) (locs : List Loc) (ls : Array Slot), Rel σ → lb_W G s σ H locs → lv_has ls 4 [(0, .ref b), (1, .ref (lb_ad G 0)), (2, .ref (lb_ad G 53)), (3, .int (nI k))] → W p l e room_1 s m #[Value.ref b] below meth c H locs 62 739 (lw_Z below #[Value.ref b] s) (F0 m 969 ls []) := by
  have hx := X.1
  have hb := X.2.1
  obtain ⟨i0, i1, i2, i3, i4, i5⟩ := lb_scr hk hL
  intro σ H locs ls hr hW hl
  obtain ⟨r, σ1, σ2, h1, h2, hr2⟩ := hst σ (xs (nI k + 1).toNatClampNeg) (xs (nI k + 2).toNatClampNeg) hr
  refine lv_aload_n hx hb dL_law_969 rfl (lv_at hl 1 rfl) ?_
  refine lv_aload_n hx hb dL_law_970 rfl (lv_at hl 0 rfl) ?_
  refine lv_iload_n hx hb dL_law_971 rfl (lv_at hl 3 rfl) ?_
  refine lv_iconst (v := 1) hx hb dL_law_972 rfl ?_
  refine lv_iadd hx hb dL_law_973 ?_
  refine va_sld hx hb hX hbl hbA hW.2 i1 dL_law_974 ?_
  refine lv_aload_n hx hb dL_law_975 rfl (lv_at hl 0 rfl) ?_
  refine lv_iload_n hx hb dL_law_976 rfl (lv_at hl 3 rfl) ?_
  refine lv_iconst (v := 2) hx hb dL_law_977 rfl ?_
  refine lv_iadd hx hb dL_law_978 ?_
  refine va_sld hx hb hX hbl hbA hW.2 i2 dL_law_979 ?_
  refine rc_L_125 X hW h1 ⟨⟨rfl, rfl⟩, Nat.le_of_ble_eq_true rfl, Nat.le_of_ble_eq_true rfl⟩ hl.1 (Nat.le_of_ble_eq_true rfl) dL_law_980 ⟨Nat.le_of_ble_eq_true rfl, Nat.le_of_ble_eq_true rfl⟩ (fun H locs hW => ?_)
  refine lv_aload_n hx hb dL_law_983 rfl (lv_at hl 2 rfl) ?_
  refine lv_aload_n hx hb dL_law_984 rfl (lv_at hl 0 rfl) ?_
  refine lv_iload_n hx hb dL_law_985 rfl (lv_at hl 3 rfl) ?_
  refine lv_iconst (v := 1) hx hb dL_law_986 rfl ?_
  refine lv_iadd hx hb dL_law_987 ?_
  refine va_sld hx hb hX hbl hbA hW.2 i1 dL_law_988 ?_
  refine lv_aload_n hx hb dL_law_989 rfl (lv_at hl 0 rfl) ?_
  refine lv_iload_n hx hb dL_law_990 rfl (lv_at hl 3 rfl) ?_
  refine lv_iconst (v := 2) hx hb dL_law_991 rfl ?_
  refine lv_iadd hx hb dL_law_992 ?_
  refine va_sld hx hb hX hbl hbA hW.2 i2 dL_law_993 ?_
  refine rc_L_128 X hW h2 ⟨⟨rfl, rfl⟩, Nat.le_of_ble_eq_true rfl, Nat.le_of_ble_eq_true rfl⟩ hl.1 (Nat.le_of_ble_eq_true rfl) dL_law_994 ⟨Nat.le_of_ble_eq_true rfl, Nat.le_of_ble_eq_true rfl⟩ (fun H locs hW => ?_)
  refine lv_icmp_eq (tgt := 1340) hx hb dL_law_997 (by decide) (fun _ => ?_) (fun z => absurd rfl z)
  exact hnx σ2 _ _ _ hr2 hW (lv_sub hl [0, 1, 2, 3] rfl)
theorem rc_L_129 {p : Program} {l : Launch} {e : Env} {R : Room} {s : State} {m : MethodId} {args : Array Value} {below : List Frame} {meth : Method} {c : Code} {H : Heap} {locs : List Loc} {cells slots : Nat} {Q : State → Prop} {cc : ByteArray} {pc nL : Nat} {ls : Array Slot} {rest : List Value} {G : lb_G} {σ : lb_Mem} {ret : Option FieldType} (X : lb_C G p s m args meth c cc nL RL ret) (hW : lb_W G s σ H locs) {x1 : Int32} {x2 : Int32} {qr : (Int32 × lb_Mem)} (h : f_X8_heir x1 x2 σ = some qr) (hR : lb_room rmX8_heir R 8) (hls : ls.size = nL) (hrest : (rest.map fun v => v.category).sum ≤ 8) (d : decode cc pc = .ok (.invokevirtual 129, 3)) (hcap : cells ≤ R.cells ∧ slots ≤ R.slots) (kk : ∀ (H1 : Heap) (locs1 : List Loc), lb_W G s qr.2 H1 locs1 → W p l e R s m args below meth c H1 locs1 cells slots Q (F0 m (pc + 3) ls (.int qr.1 :: rest))) : W p l e R s m args below meth c H locs cells slots Q (F0 m pc ls (.int x2 :: .int x1 :: .ref (lb_ad G 0) :: rest)) :=
  lb_goI hW (lb_runV (As := [.int x1, .int x2]) X hW (m_X8_heir l G σ x1 x2 qr h) (n := 2) ⟨qw_662, qw_43, qw_665, by decide +kernel⟩ hR qw_663 qw_664 lb_is0 rfl hls hrest d hcap) kk
theorem rc_L_132 {p : Program} {l : Launch} {e : Env} {R : Room} {s : State} {m : MethodId} {args : Array Value} {below : List Frame} {meth : Method} {c : Code} {H : Heap} {locs : List Loc} {cells slots : Nat} {Q : State → Prop} {cc : ByteArray} {pc nL : Nat} {ls : Array Slot} {rest : List Value} {G : lb_G} {σ : lb_Mem} {ret : Option FieldType} (X : lb_C G p s m args meth c cc nL RL ret) (hW : lb_W G s σ H locs) {x1 : Int32} {x2 : Int32} {qr : (Int32 × lb_Mem)} (h : f_X9_heir x1 x2 σ = some qr) (hR : lb_room rmX9_heir R 8) (hls : ls.size = nL) (hrest : (rest.map fun v => v.category).sum ≤ 8) (d : decode cc pc = .ok (.invokevirtual 132, 3)) (hcap : cells ≤ R.cells ∧ slots ≤ R.slots) (kk : ∀ (H1 : Heap) (locs1 : List Loc), lb_W G s qr.2 H1 locs1 → W p l e R s m args below meth c H1 locs1 cells slots Q (F0 m (pc + 3) ls (.int qr.1 :: rest))) : W p l e R s m args below meth c H locs cells slots Q (F0 m pc ls (.int x2 :: .int x1 :: .ref (lb_ad G 53) :: rest)) :=
  lb_goI hW (lb_runV (As := [.int x1, .int x2]) X hW (m_X9_heir l G σ x1 x2 qr h) (n := 2) ⟨qw_1055, qw_52, qw_1058, by decide +kernel⟩ hR qw_1056 qw_1057 lb_is53 rfl hls hrest d hcap) kk
def lb_st_heir (Rel : lb_Mem → Prop) : Prop := ∀ (σ : lb_Mem) (x1 : Int32) (x2 : Int32), Rel σ → ∃ (r : Int32) (σ1 σ2 : lb_Mem), f_X8_heir x1 x2 σ = some (r, σ1) ∧ f_X9_heir x1 x2 σ1 = some (r, σ2) ∧ Rel σ2
set_option maxRecDepth 20000 in
theorem lc_1002 {p : Program} {l : Launch} {e : Env} {s : State} {m : MethodId} {below : List Frame} {meth : Method} {c : Code} {G : lb_G} {b L k : Nat} {xs : Nat → Int32} (X : lb_C G p s m #[Value.ref b] meth c cL_law 4 RL (some .boolean)) (hX : va_X b L xs s s.heap) (hbl : b < s.heap.size) (hbA : ¬ lb_A G b) (hk : k + 5 < L) (hL : L ≤ 3072) {Rel : lb_Mem → Prop} (hst : lb_st_heir Rel) (hnx : ∀ (σ : lb_Mem) (H : Heap) (locs : List Loc) (ls : Array Slot), Rel σ → lb_W G s σ H locs → lv_has ls 4 [(0, .ref b), (1, .ref (lb_ad G 0)), (2, .ref (lb_ad G 53)), (3, .int (nI k))] → W p l e room_1 s m #[Value.ref b] below meth c H locs 62 739 (lw_Z below #[Value.ref b] s) (F0 m 1340 ls [])) : ∀ (σ : lb_Mem) (H : Heap) (locs : List Loc) (ls : Array Slot), Rel σ → lb_W G s σ H locs → lv_has ls 4 [(0, .ref b), (1, .ref (lb_ad G 0)), (2, .ref (lb_ad G 53)), (3, .int (nI k))] → W p l e room_1 s m #[Value.ref b] below meth c H locs 62 739 (lw_Z below #[Value.ref b] s) (F0 m 1002 ls []) := by
  have hx := X.1
  have hb := X.2.1
  obtain ⟨i0, i1, i2, i3, i4, i5⟩ := lb_scr hk hL
  intro σ H locs ls hr hW hl
  obtain ⟨r, σ1, σ2, h1, h2, hr2⟩ := hst σ (xs (nI k + 1).toNatClampNeg) (xs (nI k + 2).toNatClampNeg) hr
  refine lv_aload_n hx hb dL_law_1002 rfl (lv_at hl 1 rfl) ?_
  refine lv_aload_n hx hb dL_law_1003 rfl (lv_at hl 0 rfl) ?_
  refine lv_iload_n hx hb dL_law_1004 rfl (lv_at hl 3 rfl) ?_
  refine lv_iconst (v := 1) hx hb dL_law_1005 rfl ?_
  refine lv_iadd hx hb dL_law_1006 ?_
  refine va_sld hx hb hX hbl hbA hW.2 i1 dL_law_1007 ?_
  refine lv_aload_n hx hb dL_law_1008 rfl (lv_at hl 0 rfl) ?_
  refine lv_iload_n hx hb dL_law_1009 rfl (lv_at hl 3 rfl) ?_
  refine lv_iconst (v := 2) hx hb dL_law_1010 rfl ?_
  refine lv_iadd hx hb dL_law_1011 ?_
  refine va_sld hx hb hX hbl hbA hW.2 i2 dL_law_1012 ?_
  refine rc_L_129 X hW h1 ⟨⟨rfl, rfl⟩, Nat.le_of_ble_eq_true rfl, Nat.le_of_ble_eq_true rfl⟩ hl.1 (Nat.le_of_ble_eq_true rfl) dL_law_1013 ⟨Nat.le_of_ble_eq_true rfl, Nat.le_of_ble_eq_true rfl⟩ (fun H locs hW => ?_)
  refine lv_aload_n hx hb dL_law_1016 rfl (lv_at hl 2 rfl) ?_
  refine lv_aload_n hx hb dL_law_1017 rfl (lv_at hl 0 rfl) ?_
  refine lv_iload_n hx hb dL_law_1018 rfl (lv_at hl 3 rfl) ?_
  refine lv_iconst (v := 1) hx hb dL_law_1019 rfl ?_
  refine lv_iadd hx hb dL_law_1020 ?_
  refine va_sld hx hb hX hbl hbA hW.2 i1 dL_law_1021 ?_
  refine lv_aload_n hx hb dL_law_1022 rfl (lv_at hl 0 rfl) ?_
  refine lv_iload_n hx hb dL_law_1023 rfl (lv_at hl 3 rfl) ?_
  refine lv_iconst (v := 2) hx hb dL_law_1024 rfl ?_
  refine lv_iadd hx hb dL_law_1025 ?_
  refine va_sld hx hb hX hbl hbA hW.2 i2 dL_law_1026 ?_
  refine rc_L_132 X hW h2 ⟨⟨rfl, rfl⟩, Nat.le_of_ble_eq_true rfl, Nat.le_of_ble_eq_true rfl⟩ hl.1 (Nat.le_of_ble_eq_true rfl) dL_law_1027 ⟨Nat.le_of_ble_eq_true rfl, Nat.le_of_ble_eq_true rfl⟩ (fun H locs hW => ?_)
  refine lv_icmp_eq (tgt := 1340) hx hb dL_law_1030 (by decide) (fun _ => ?_) (fun z => absurd rfl z)
  exact hnx σ2 _ _ _ hr2 hW (lv_sub hl [0, 1, 2, 3] rfl)
theorem rc_L_133 {p : Program} {l : Launch} {e : Env} {R : Room} {s : State} {m : MethodId} {args : Array Value} {below : List Frame} {meth : Method} {c : Code} {H : Heap} {locs : List Loc} {cells slots : Nat} {Q : State → Prop} {cc : ByteArray} {pc nL : Nat} {ls : Array Slot} {rest : List Value} {G : lb_G} {σ : lb_Mem} {ret : Option FieldType} (X : lb_C G p s m args meth c cc nL RL ret) (hW : lb_W G s σ H locs) {x1 : Int32} {x2 : Int32} {x3 : Int32} {qr : (Int32 × lb_Mem)} (h : f_X8_two x1 x2 x3 σ = some qr) (hR : lb_room rmX8_two R 5) (hls : ls.size = nL) (hrest : (rest.map fun v => v.category).sum ≤ 8) (d : decode cc pc = .ok (.invokevirtual 133, 3)) (hcap : cells ≤ R.cells ∧ slots ≤ R.slots) (kk : ∀ (H1 : Heap) (locs1 : List Loc), lb_W G s qr.2 H1 locs1 → W p l e R s m args below meth c H1 locs1 cells slots Q (F0 m (pc + 3) ls (.int qr.1 :: rest))) : W p l e R s m args below meth c H locs cells slots Q (F0 m pc ls (.int x3 :: .int x2 :: .int x1 :: .ref (lb_ad G 0) :: rest)) :=
  lb_goI hW (lb_runV (As := [.int x1, .int x2, .int x3]) X hW (m_X8_two l G σ x1 x2 x3 qr h) (n := 3) ⟨qw_666, qw_43, qw_669, by decide +kernel⟩ hR qw_667 qw_668 lb_is0 rfl hls hrest d hcap) kk
theorem rc_L_136 {p : Program} {l : Launch} {e : Env} {R : Room} {s : State} {m : MethodId} {args : Array Value} {below : List Frame} {meth : Method} {c : Code} {H : Heap} {locs : List Loc} {cells slots : Nat} {Q : State → Prop} {cc : ByteArray} {pc nL : Nat} {ls : Array Slot} {rest : List Value} {G : lb_G} {σ : lb_Mem} {ret : Option FieldType} (X : lb_C G p s m args meth c cc nL RL ret) (hW : lb_W G s σ H locs) {x1 : Int32} {x2 : Int32} {x3 : Int32} {qr : (Int32 × lb_Mem)} (h : f_X9_two x1 x2 x3 σ = some qr) (hR : lb_room rmX9_two R 10) (hls : ls.size = nL) (hrest : (rest.map fun v => v.category).sum ≤ 8) (d : decode cc pc = .ok (.invokevirtual 136, 3)) (hcap : cells ≤ R.cells ∧ slots ≤ R.slots) (kk : ∀ (H1 : Heap) (locs1 : List Loc), lb_W G s qr.2 H1 locs1 → W p l e R s m args below meth c H1 locs1 cells slots Q (F0 m (pc + 3) ls (.int qr.1 :: rest))) : W p l e R s m args below meth c H locs cells slots Q (F0 m pc ls (.int x3 :: .int x2 :: .int x1 :: .ref (lb_ad G 53) :: rest)) :=
  lb_goI hW (lb_runV (As := [.int x1, .int x2, .int x3]) X hW (m_X9_two l G σ x1 x2 x3 qr h) (n := 3) ⟨qw_1059, qw_52, qw_1062, by decide +kernel⟩ hR qw_1060 qw_1061 lb_is53 rfl hls hrest d hcap) kk
def lb_st_two (Rel : lb_Mem → Prop) : Prop := ∀ (σ : lb_Mem) (x1 : Int32) (x2 : Int32) (x3 : Int32), Rel σ → ∃ (r : Int32) (σ1 σ2 : lb_Mem), f_X8_two x1 x2 x3 σ = some (r, σ1) ∧ f_X9_two x1 x2 x3 σ1 = some (r, σ2) ∧ Rel σ2
set_option maxRecDepth 20000 in
theorem lc_1035 {p : Program} {l : Launch} {e : Env} {s : State} {m : MethodId} {below : List Frame} {meth : Method} {c : Code} {G : lb_G} {b L k : Nat} {xs : Nat → Int32} (X : lb_C G p s m #[Value.ref b] meth c cL_law 4 RL (some .boolean)) (hX : va_X b L xs s s.heap) (hbl : b < s.heap.size) (hbA : ¬ lb_A G b) (hk : k + 5 < L) (hL : L ≤ 3072) {Rel : lb_Mem → Prop} (hst : lb_st_two Rel) (hnx : ∀ (σ : lb_Mem) (H : Heap) (locs : List Loc) (ls : Array Slot), Rel σ → lb_W G s σ H locs → lv_has ls 4 [(0, .ref b), (1, .ref (lb_ad G 0)), (2, .ref (lb_ad G 53)), (3, .int (nI k))] → W p l e room_1 s m #[Value.ref b] below meth c H locs 62 739 (lw_Z below #[Value.ref b] s) (F0 m 1340 ls [])) : ∀ (σ : lb_Mem) (H : Heap) (locs : List Loc) (ls : Array Slot), Rel σ → lb_W G s σ H locs → lv_has ls 4 [(0, .ref b), (1, .ref (lb_ad G 0)), (2, .ref (lb_ad G 53)), (3, .int (nI k))] → W p l e room_1 s m #[Value.ref b] below meth c H locs 62 739 (lw_Z below #[Value.ref b] s) (F0 m 1035 ls []) := by
  have hx := X.1
  have hb := X.2.1
  obtain ⟨i0, i1, i2, i3, i4, i5⟩ := lb_scr hk hL
  intro σ H locs ls hr hW hl
  obtain ⟨r, σ1, σ2, h1, h2, hr2⟩ := hst σ (xs (nI k + 1).toNatClampNeg) (xs (nI k + 2).toNatClampNeg) (xs (nI k + 3).toNatClampNeg) hr
  refine lv_aload_n hx hb dL_law_1035 rfl (lv_at hl 1 rfl) ?_
  refine lv_aload_n hx hb dL_law_1036 rfl (lv_at hl 0 rfl) ?_
  refine lv_iload_n hx hb dL_law_1037 rfl (lv_at hl 3 rfl) ?_
  refine lv_iconst (v := 1) hx hb dL_law_1038 rfl ?_
  refine lv_iadd hx hb dL_law_1039 ?_
  refine va_sld hx hb hX hbl hbA hW.2 i1 dL_law_1040 ?_
  refine lv_aload_n hx hb dL_law_1041 rfl (lv_at hl 0 rfl) ?_
  refine lv_iload_n hx hb dL_law_1042 rfl (lv_at hl 3 rfl) ?_
  refine lv_iconst (v := 2) hx hb dL_law_1043 rfl ?_
  refine lv_iadd hx hb dL_law_1044 ?_
  refine va_sld hx hb hX hbl hbA hW.2 i2 dL_law_1045 ?_
  refine lv_aload_n hx hb dL_law_1046 rfl (lv_at hl 0 rfl) ?_
  refine lv_iload_n hx hb dL_law_1047 rfl (lv_at hl 3 rfl) ?_
  refine lv_iconst (v := 3) hx hb dL_law_1048 rfl ?_
  refine lv_iadd hx hb dL_law_1049 ?_
  refine va_sld hx hb hX hbl hbA hW.2 i3 dL_law_1050 ?_
  refine rc_L_133 X hW h1 ⟨⟨rfl, rfl⟩, Nat.le_of_ble_eq_true rfl, Nat.le_of_ble_eq_true rfl⟩ hl.1 (Nat.le_of_ble_eq_true rfl) dL_law_1051 ⟨Nat.le_of_ble_eq_true rfl, Nat.le_of_ble_eq_true rfl⟩ (fun H locs hW => ?_)
  refine lv_aload_n hx hb dL_law_1054 rfl (lv_at hl 2 rfl) ?_
  refine lv_aload_n hx hb dL_law_1055 rfl (lv_at hl 0 rfl) ?_
  refine lv_iload_n hx hb dL_law_1056 rfl (lv_at hl 3 rfl) ?_
  refine lv_iconst (v := 1) hx hb dL_law_1057 rfl ?_
  refine lv_iadd hx hb dL_law_1058 ?_
  refine va_sld hx hb hX hbl hbA hW.2 i1 dL_law_1059 ?_
  refine lv_aload_n hx hb dL_law_1060 rfl (lv_at hl 0 rfl) ?_
  refine lv_iload_n hx hb dL_law_1061 rfl (lv_at hl 3 rfl) ?_
  refine lv_iconst (v := 2) hx hb dL_law_1062 rfl ?_
  refine lv_iadd hx hb dL_law_1063 ?_
  refine va_sld hx hb hX hbl hbA hW.2 i2 dL_law_1064 ?_
  refine lv_aload_n hx hb dL_law_1065 rfl (lv_at hl 0 rfl) ?_
  refine lv_iload_n hx hb dL_law_1066 rfl (lv_at hl 3 rfl) ?_
  refine lv_iconst (v := 3) hx hb dL_law_1067 rfl ?_
  refine lv_iadd hx hb dL_law_1068 ?_
  refine va_sld hx hb hX hbl hbA hW.2 i3 dL_law_1069 ?_
  refine rc_L_136 X hW h2 ⟨⟨rfl, rfl⟩, Nat.le_of_ble_eq_true rfl, Nat.le_of_ble_eq_true rfl⟩ hl.1 (Nat.le_of_ble_eq_true rfl) dL_law_1070 ⟨Nat.le_of_ble_eq_true rfl, Nat.le_of_ble_eq_true rfl⟩ (fun H locs hW => ?_)
  refine lv_icmp_eq (tgt := 1340) hx hb dL_law_1073 (by decide) (fun _ => ?_) (fun z => absurd rfl z)
  exact hnx σ2 _ _ _ hr2 hW (lv_sub hl [0, 1, 2, 3] rfl)
theorem rc_L_137 {p : Program} {l : Launch} {e : Env} {R : Room} {s : State} {m : MethodId} {args : Array Value} {below : List Frame} {meth : Method} {c : Code} {H : Heap} {locs : List Loc} {cells slots : Nat} {Q : State → Prop} {cc : ByteArray} {pc nL : Nat} {ls : Array Slot} {rest : List Value} {G : lb_G} {σ : lb_Mem} {ret : Option FieldType} (X : lb_C G p s m args meth c cc nL RL ret) (hW : lb_W G s σ H locs) {x1 : Int32} {x2 : Int32} {x3 : Int32} {x4 : Int32} {x5 : Int32} {qr : (Int64 × lb_Mem)} (h : f_X8_errs x1 x2 x3 x4 x5 σ = some qr) (hR : lb_room rmX8_errs R 10) (hls : ls.size = nL) (hrest : (rest.map fun v => v.category).sum ≤ 8) (d : decode cc pc = .ok (.invokevirtual 137, 3)) (hcap : cells ≤ R.cells ∧ slots ≤ R.slots) (kk : ∀ (H1 : Heap) (locs1 : List Loc), lb_W G s qr.2 H1 locs1 → W p l e R s m args below meth c H1 locs1 cells slots Q (F0 m (pc + 3) ls (.long qr.1 :: rest))) : W p l e R s m args below meth c H locs cells slots Q (F0 m pc ls (.int x5 :: .int x4 :: .int x3 :: .int x2 :: .int x1 :: .ref (lb_ad G 0) :: rest)) :=
  lb_goL hW (lb_runV (As := [.int x1, .int x2, .int x3, .int x4, .int x5]) X hW (m_X8_errs l G σ x1 x2 x3 x4 x5 qr h) (n := 5) ⟨qw_674, qw_43, qw_677, by decide +kernel⟩ hR qw_675 qw_676 lb_is0 rfl hls hrest d hcap) kk
theorem rc_L_141 {p : Program} {l : Launch} {e : Env} {R : Room} {s : State} {m : MethodId} {args : Array Value} {below : List Frame} {meth : Method} {c : Code} {H : Heap} {locs : List Loc} {cells slots : Nat} {Q : State → Prop} {cc : ByteArray} {pc nL : Nat} {ls : Array Slot} {rest : List Value} {G : lb_G} {σ : lb_Mem} {ret : Option FieldType} (X : lb_C G p s m args meth c cc nL RL ret) (hW : lb_W G s σ H locs) {x1 : Int32} {x2 : Int32} {x3 : Int32} {x4 : Int32} {x5 : Int32} {qr : (Int64 × lb_Mem)} (h : f_X9_errs x1 x2 x3 x4 x5 σ = some qr) (hR : lb_room rmX9_errs R 14) (hls : ls.size = nL) (hrest : (rest.map fun v => v.category).sum ≤ 8) (d : decode cc pc = .ok (.invokevirtual 141, 3)) (hcap : cells ≤ R.cells ∧ slots ≤ R.slots) (kk : ∀ (H1 : Heap) (locs1 : List Loc), lb_W G s qr.2 H1 locs1 → W p l e R s m args below meth c H1 locs1 cells slots Q (F0 m (pc + 3) ls (.long qr.1 :: rest))) : W p l e R s m args below meth c H locs cells slots Q (F0 m pc ls (.int x5 :: .int x4 :: .int x3 :: .int x2 :: .int x1 :: .ref (lb_ad G 53) :: rest)) :=
  lb_goL hW (lb_runV (As := [.int x1, .int x2, .int x3, .int x4, .int x5]) X hW (m_X9_errs l G σ x1 x2 x3 x4 x5 qr h) (n := 5) ⟨qw_1067, qw_52, qw_1070, by decide +kernel⟩ hR qw_1068 qw_1069 lb_is53 rfl hls hrest d hcap) kk
def lb_st_errs (Rel : lb_Mem → Prop) : Prop := ∀ (σ : lb_Mem) (x1 : Int32) (x2 : Int32) (x3 : Int32) (x4 : Int32) (x5 : Int32), Rel σ → ∃ (r : Int64) (σ1 σ2 : lb_Mem), f_X8_errs x1 x2 x3 x4 x5 σ = some (r, σ1) ∧ f_X9_errs x1 x2 x3 x4 x5 σ1 = some (r, σ2) ∧ Rel σ2
set_option maxRecDepth 20000 in
theorem lc_1078 {p : Program} {l : Launch} {e : Env} {s : State} {m : MethodId} {below : List Frame} {meth : Method} {c : Code} {G : lb_G} {b L k : Nat} {xs : Nat → Int32} (X : lb_C G p s m #[Value.ref b] meth c cL_law 4 RL (some .boolean)) (hX : va_X b L xs s s.heap) (hbl : b < s.heap.size) (hbA : ¬ lb_A G b) (hk : k + 5 < L) (hL : L ≤ 3072) {Rel : lb_Mem → Prop} (hst : lb_st_errs Rel) (hnx : ∀ (σ : lb_Mem) (H : Heap) (locs : List Loc) (ls : Array Slot), Rel σ → lb_W G s σ H locs → lv_has ls 4 [(0, .ref b), (1, .ref (lb_ad G 0)), (2, .ref (lb_ad G 53)), (3, .int (nI k))] → W p l e room_1 s m #[Value.ref b] below meth c H locs 62 739 (lw_Z below #[Value.ref b] s) (F0 m 1340 ls [])) : ∀ (σ : lb_Mem) (H : Heap) (locs : List Loc) (ls : Array Slot), Rel σ → lb_W G s σ H locs → lv_has ls 4 [(0, .ref b), (1, .ref (lb_ad G 0)), (2, .ref (lb_ad G 53)), (3, .int (nI k))] → W p l e room_1 s m #[Value.ref b] below meth c H locs 62 739 (lw_Z below #[Value.ref b] s) (F0 m 1078 ls []) := by
  have hx := X.1
  have hb := X.2.1
  obtain ⟨i0, i1, i2, i3, i4, i5⟩ := lb_scr hk hL
  intro σ H locs ls hr hW hl
  obtain ⟨r, σ1, σ2, h1, h2, hr2⟩ := hst σ (xs (nI k + 1).toNatClampNeg) (xs (nI k + 2).toNatClampNeg) (xs (nI k + 3).toNatClampNeg) (xs (nI k + 4).toNatClampNeg) (xs (nI k + 5).toNatClampNeg) hr
  refine lv_aload_n hx hb dL_law_1078 rfl (lv_at hl 1 rfl) ?_
  refine lv_aload_n hx hb dL_law_1079 rfl (lv_at hl 0 rfl) ?_
  refine lv_iload_n hx hb dL_law_1080 rfl (lv_at hl 3 rfl) ?_
  refine lv_iconst (v := 1) hx hb dL_law_1081 rfl ?_
  refine lv_iadd hx hb dL_law_1082 ?_
  refine va_sld hx hb hX hbl hbA hW.2 i1 dL_law_1083 ?_
  refine lv_aload_n hx hb dL_law_1084 rfl (lv_at hl 0 rfl) ?_
  refine lv_iload_n hx hb dL_law_1085 rfl (lv_at hl 3 rfl) ?_
  refine lv_iconst (v := 2) hx hb dL_law_1086 rfl ?_
  refine lv_iadd hx hb dL_law_1087 ?_
  refine va_sld hx hb hX hbl hbA hW.2 i2 dL_law_1088 ?_
  refine lv_aload_n hx hb dL_law_1089 rfl (lv_at hl 0 rfl) ?_
  refine lv_iload_n hx hb dL_law_1090 rfl (lv_at hl 3 rfl) ?_
  refine lv_iconst (v := 3) hx hb dL_law_1091 rfl ?_
  refine lv_iadd hx hb dL_law_1092 ?_
  refine va_sld hx hb hX hbl hbA hW.2 i3 dL_law_1093 ?_
  refine lv_aload_n hx hb dL_law_1094 rfl (lv_at hl 0 rfl) ?_
  refine lv_iload_n hx hb dL_law_1095 rfl (lv_at hl 3 rfl) ?_
  refine lv_iconst (v := 4) hx hb dL_law_1096 rfl ?_
  refine lv_iadd hx hb dL_law_1097 ?_
  refine va_sld hx hb hX hbl hbA hW.2 i4 dL_law_1098 ?_
  refine lv_aload_n hx hb dL_law_1099 rfl (lv_at hl 0 rfl) ?_
  refine lv_iload_n hx hb dL_law_1100 rfl (lv_at hl 3 rfl) ?_
  refine lv_iconst (v := 5) hx hb dL_law_1101 rfl ?_
  refine lv_iadd hx hb dL_law_1102 ?_
  refine va_sld hx hb hX hbl hbA hW.2 i5 dL_law_1103 ?_
  refine rc_L_137 X hW h1 ⟨⟨rfl, rfl⟩, Nat.le_of_ble_eq_true rfl, Nat.le_of_ble_eq_true rfl⟩ hl.1 (Nat.le_of_ble_eq_true rfl) dL_law_1104 ⟨Nat.le_of_ble_eq_true rfl, Nat.le_of_ble_eq_true rfl⟩ (fun H locs hW => ?_)
  refine lv_aload_n hx hb dL_law_1107 rfl (lv_at hl 2 rfl) ?_
  refine lv_aload_n hx hb dL_law_1108 rfl (lv_at hl 0 rfl) ?_
  refine lv_iload_n hx hb dL_law_1109 rfl (lv_at hl 3 rfl) ?_
  refine lv_iconst (v := 1) hx hb dL_law_1110 rfl ?_
  refine lv_iadd hx hb dL_law_1111 ?_
  refine va_sld hx hb hX hbl hbA hW.2 i1 dL_law_1112 ?_
  refine lv_aload_n hx hb dL_law_1113 rfl (lv_at hl 0 rfl) ?_
  refine lv_iload_n hx hb dL_law_1114 rfl (lv_at hl 3 rfl) ?_
  refine lv_iconst (v := 2) hx hb dL_law_1115 rfl ?_
  refine lv_iadd hx hb dL_law_1116 ?_
  refine va_sld hx hb hX hbl hbA hW.2 i2 dL_law_1117 ?_
  refine lv_aload_n hx hb dL_law_1118 rfl (lv_at hl 0 rfl) ?_
  refine lv_iload_n hx hb dL_law_1119 rfl (lv_at hl 3 rfl) ?_
  refine lv_iconst (v := 3) hx hb dL_law_1120 rfl ?_
  refine lv_iadd hx hb dL_law_1121 ?_
  refine va_sld hx hb hX hbl hbA hW.2 i3 dL_law_1122 ?_
  refine lv_aload_n hx hb dL_law_1123 rfl (lv_at hl 0 rfl) ?_
  refine lv_iload_n hx hb dL_law_1124 rfl (lv_at hl 3 rfl) ?_
  refine lv_iconst (v := 4) hx hb dL_law_1125 rfl ?_
  refine lv_iadd hx hb dL_law_1126 ?_
  refine va_sld hx hb hX hbl hbA hW.2 i4 dL_law_1127 ?_
  refine lv_aload_n hx hb dL_law_1128 rfl (lv_at hl 0 rfl) ?_
  refine lv_iload_n hx hb dL_law_1129 rfl (lv_at hl 3 rfl) ?_
  refine lv_iconst (v := 5) hx hb dL_law_1130 rfl ?_
  refine lv_iadd hx hb dL_law_1131 ?_
  refine va_sld hx hb hX hbl hbA hW.2 i5 dL_law_1132 ?_
  refine rc_L_141 X hW h2 ⟨⟨rfl, rfl⟩, Nat.le_of_ble_eq_true rfl, Nat.le_of_ble_eq_true rfl⟩ hl.1 (Nat.le_of_ble_eq_true rfl) dL_law_1133 ⟨Nat.le_of_ble_eq_true rfl, Nat.le_of_ble_eq_true rfl⟩ (fun H locs hW => ?_)
  refine W.lcmp hx hb dL_law_1136 ?_
  refine lv_if_eq (tgt := 1340) hx hb dL_law_1137 (by decide) (fun _ => ?_) (fun z => absurd (lb_cmp0 r) z)
  exact hnx σ2 _ _ _ hr2 hW (lv_sub hl [0, 1, 2, 3] rfl)
theorem rc_L_142 {p : Program} {l : Launch} {e : Env} {R : Room} {s : State} {m : MethodId} {args : Array Value} {below : List Frame} {meth : Method} {c : Code} {H : Heap} {locs : List Loc} {cells slots : Nat} {Q : State → Prop} {cc : ByteArray} {pc nL : Nat} {ls : Array Slot} {rest : List Value} {G : lb_G} {σ : lb_Mem} {ret : Option FieldType} (X : lb_C G p s m args meth c cc nL RL ret) (hW : lb_W G s σ H locs) {x1 : Int32} {qr : (Int64 × lb_Mem)} (h : f_X8_mean x1 σ = some qr) (hR : lb_room rmX8_mean R 3) (hls : ls.size = nL) (hrest : (rest.map fun v => v.category).sum ≤ 8) (d : decode cc pc = .ok (.invokevirtual 142, 3)) (hcap : cells ≤ R.cells ∧ slots ≤ R.slots) (kk : ∀ (H1 : Heap) (locs1 : List Loc), lb_W G s qr.2 H1 locs1 → W p l e R s m args below meth c H1 locs1 cells slots Q (F0 m (pc + 3) ls (.long qr.1 :: rest))) : W p l e R s m args below meth c H locs cells slots Q (F0 m pc ls (.int x1 :: .ref (lb_ad G 0) :: rest)) :=
  lb_goL hW (lb_runV (As := [.int x1]) X hW (m_X8_mean l G σ x1 qr h) (n := 1) ⟨qw_703, qw_43, qw_706, by decide +kernel⟩ hR qw_704 qw_705 lb_is0 rfl hls hrest d hcap) kk
theorem rc_L_146 {p : Program} {l : Launch} {e : Env} {R : Room} {s : State} {m : MethodId} {args : Array Value} {below : List Frame} {meth : Method} {c : Code} {H : Heap} {locs : List Loc} {cells slots : Nat} {Q : State → Prop} {cc : ByteArray} {pc nL : Nat} {ls : Array Slot} {rest : List Value} {G : lb_G} {σ : lb_Mem} {ret : Option FieldType} (X : lb_C G p s m args meth c cc nL RL ret) (hW : lb_W G s σ H locs) {x1 : Int32} {qr : (Int64 × lb_Mem)} (h : f_X9_mean x1 σ = some qr) (hR : lb_room rmX9_mean R 2) (hls : ls.size = nL) (hrest : (rest.map fun v => v.category).sum ≤ 8) (d : decode cc pc = .ok (.invokevirtual 146, 3)) (hcap : cells ≤ R.cells ∧ slots ≤ R.slots) (kk : ∀ (H1 : Heap) (locs1 : List Loc), lb_W G s qr.2 H1 locs1 → W p l e R s m args below meth c H1 locs1 cells slots Q (F0 m (pc + 3) ls (.long qr.1 :: rest))) : W p l e R s m args below meth c H locs cells slots Q (F0 m pc ls (.int x1 :: .ref (lb_ad G 53) :: rest)) :=
  lb_goL hW (lb_runV (As := [.int x1]) X hW (m_X9_mean l G σ x1 qr h) (n := 1) ⟨qw_1085, qw_52, qw_1088, by decide +kernel⟩ hR qw_1086 qw_1087 lb_is53 rfl hls hrest d hcap) kk
def lb_st_mean (Rel : lb_Mem → Prop) : Prop := ∀ (σ : lb_Mem) (x1 : Int32), Rel σ → ∃ (r : Int64) (σ1 σ2 : lb_Mem), f_X8_mean x1 σ = some (r, σ1) ∧ f_X9_mean x1 σ1 = some (r, σ2) ∧ Rel σ2
set_option maxRecDepth 20000 in
theorem lc_1142 {p : Program} {l : Launch} {e : Env} {s : State} {m : MethodId} {below : List Frame} {meth : Method} {c : Code} {G : lb_G} {b L k : Nat} {xs : Nat → Int32} (X : lb_C G p s m #[Value.ref b] meth c cL_law 4 RL (some .boolean)) (hX : va_X b L xs s s.heap) (hbl : b < s.heap.size) (hbA : ¬ lb_A G b) (hk : k + 5 < L) (hL : L ≤ 3072) {Rel : lb_Mem → Prop} (hst : lb_st_mean Rel) (hnx : ∀ (σ : lb_Mem) (H : Heap) (locs : List Loc) (ls : Array Slot), Rel σ → lb_W G s σ H locs → lv_has ls 4 [(0, .ref b), (1, .ref (lb_ad G 0)), (2, .ref (lb_ad G 53)), (3, .int (nI k))] → W p l e room_1 s m #[Value.ref b] below meth c H locs 62 739 (lw_Z below #[Value.ref b] s) (F0 m 1340 ls [])) : ∀ (σ : lb_Mem) (H : Heap) (locs : List Loc) (ls : Array Slot), Rel σ → lb_W G s σ H locs → lv_has ls 4 [(0, .ref b), (1, .ref (lb_ad G 0)), (2, .ref (lb_ad G 53)), (3, .int (nI k))] → W p l e room_1 s m #[Value.ref b] below meth c H locs 62 739 (lw_Z below #[Value.ref b] s) (F0 m 1142 ls []) := by
  have hx := X.1
  have hb := X.2.1
  obtain ⟨i0, i1, i2, i3, i4, i5⟩ := lb_scr hk hL
  intro σ H locs ls hr hW hl
  obtain ⟨r, σ1, σ2, h1, h2, hr2⟩ := hst σ (xs (nI k + 1).toNatClampNeg) hr
  refine lv_aload_n hx hb dL_law_1142 rfl (lv_at hl 1 rfl) ?_
  refine lv_aload_n hx hb dL_law_1143 rfl (lv_at hl 0 rfl) ?_
  refine lv_iload_n hx hb dL_law_1144 rfl (lv_at hl 3 rfl) ?_
  refine lv_iconst (v := 1) hx hb dL_law_1145 rfl ?_
  refine lv_iadd hx hb dL_law_1146 ?_
  refine va_sld hx hb hX hbl hbA hW.2 i1 dL_law_1147 ?_
  refine rc_L_142 X hW h1 ⟨⟨rfl, rfl⟩, Nat.le_of_ble_eq_true rfl, Nat.le_of_ble_eq_true rfl⟩ hl.1 (Nat.le_of_ble_eq_true rfl) dL_law_1148 ⟨Nat.le_of_ble_eq_true rfl, Nat.le_of_ble_eq_true rfl⟩ (fun H locs hW => ?_)
  refine lv_aload_n hx hb dL_law_1151 rfl (lv_at hl 2 rfl) ?_
  refine lv_aload_n hx hb dL_law_1152 rfl (lv_at hl 0 rfl) ?_
  refine lv_iload_n hx hb dL_law_1153 rfl (lv_at hl 3 rfl) ?_
  refine lv_iconst (v := 1) hx hb dL_law_1154 rfl ?_
  refine lv_iadd hx hb dL_law_1155 ?_
  refine va_sld hx hb hX hbl hbA hW.2 i1 dL_law_1156 ?_
  refine rc_L_146 X hW h2 ⟨⟨rfl, rfl⟩, Nat.le_of_ble_eq_true rfl, Nat.le_of_ble_eq_true rfl⟩ hl.1 (Nat.le_of_ble_eq_true rfl) dL_law_1157 ⟨Nat.le_of_ble_eq_true rfl, Nat.le_of_ble_eq_true rfl⟩ (fun H locs hW => ?_)
  refine W.lcmp hx hb dL_law_1160 ?_
  refine lv_if_eq (tgt := 1340) hx hb dL_law_1161 (by decide) (fun _ => ?_) (fun z => absurd (lb_cmp0 r) z)
  exact hnx σ2 _ _ _ hr2 hW (lv_sub hl [0, 1, 2, 3] rfl)
theorem rc_L_147 {p : Program} {l : Launch} {e : Env} {R : Room} {s : State} {m : MethodId} {args : Array Value} {below : List Frame} {meth : Method} {c : Code} {H : Heap} {locs : List Loc} {cells slots : Nat} {Q : State → Prop} {cc : ByteArray} {pc nL : Nat} {ls : Array Slot} {rest : List Value} {G : lb_G} {σ : lb_Mem} {ret : Option FieldType} (X : lb_C G p s m args meth c cc nL RL ret) (hW : lb_W G s σ H locs) {x1 : Int32} {x2 : Int32} {qr : (Int32 × lb_Mem)} (h : f_X8_whatIn x1 x2 σ = some qr) (hR : lb_room rmX8_whatIn R 7) (hls : ls.size = nL) (hrest : (rest.map fun v => v.category).sum ≤ 8) (d : decode cc pc = .ok (.invokevirtual 147, 3)) (hcap : cells ≤ R.cells ∧ slots ≤ R.slots) (kk : ∀ (H1 : Heap) (locs1 : List Loc), lb_W G s qr.2 H1 locs1 → W p l e R s m args below meth c H1 locs1 cells slots Q (F0 m (pc + 3) ls (.int qr.1 :: rest))) : W p l e R s m args below meth c H locs cells slots Q (F0 m pc ls (.int x2 :: .int x1 :: .ref (lb_ad G 0) :: rest)) :=
  lb_goI hW (lb_runV (As := [.int x1, .int x2]) X hW (m_X8_whatIn l G σ x1 x2 qr h) (n := 2) ⟨qw_707, qw_43, qw_710, by decide +kernel⟩ hR qw_708 qw_709 lb_is0 rfl hls hrest d hcap) kk
theorem rc_L_150 {p : Program} {l : Launch} {e : Env} {R : Room} {s : State} {m : MethodId} {args : Array Value} {below : List Frame} {meth : Method} {c : Code} {H : Heap} {locs : List Loc} {cells slots : Nat} {Q : State → Prop} {cc : ByteArray} {pc nL : Nat} {ls : Array Slot} {rest : List Value} {G : lb_G} {σ : lb_Mem} {ret : Option FieldType} (X : lb_C G p s m args meth c cc nL RL ret) (hW : lb_W G s σ H locs) {x1 : Int32} {x2 : Int32} {qr : (Int32 × lb_Mem)} (h : f_X9_whatIn x1 x2 σ = some qr) (hR : lb_room rmX9_whatIn R 8) (hls : ls.size = nL) (hrest : (rest.map fun v => v.category).sum ≤ 8) (d : decode cc pc = .ok (.invokevirtual 150, 3)) (hcap : cells ≤ R.cells ∧ slots ≤ R.slots) (kk : ∀ (H1 : Heap) (locs1 : List Loc), lb_W G s qr.2 H1 locs1 → W p l e R s m args below meth c H1 locs1 cells slots Q (F0 m (pc + 3) ls (.int qr.1 :: rest))) : W p l e R s m args below meth c H locs cells slots Q (F0 m pc ls (.int x2 :: .int x1 :: .ref (lb_ad G 53) :: rest)) :=
  lb_goI hW (lb_runV (As := [.int x1, .int x2]) X hW (m_X9_whatIn l G σ x1 x2 qr h) (n := 2) ⟨qw_1089, qw_52, qw_1092, by decide +kernel⟩ hR qw_1090 qw_1091 lb_is53 rfl hls hrest d hcap) kk
def lb_st_whatIn (Rel : lb_Mem → Prop) : Prop := ∀ (σ : lb_Mem) (x1 : Int32) (x2 : Int32), Rel σ → ∃ (r : Int32) (σ1 σ2 : lb_Mem), f_X8_whatIn x1 x2 σ = some (r, σ1) ∧ f_X9_whatIn x1 x2 σ1 = some (r, σ2) ∧ Rel σ2
set_option maxRecDepth 20000 in
theorem lc_1166 {p : Program} {l : Launch} {e : Env} {s : State} {m : MethodId} {below : List Frame} {meth : Method} {c : Code} {G : lb_G} {b L k : Nat} {xs : Nat → Int32} (X : lb_C G p s m #[Value.ref b] meth c cL_law 4 RL (some .boolean)) (hX : va_X b L xs s s.heap) (hbl : b < s.heap.size) (hbA : ¬ lb_A G b) (hk : k + 5 < L) (hL : L ≤ 3072) {Rel : lb_Mem → Prop} (hst : lb_st_whatIn Rel) (hnx : ∀ (σ : lb_Mem) (H : Heap) (locs : List Loc) (ls : Array Slot), Rel σ → lb_W G s σ H locs → lv_has ls 4 [(0, .ref b), (1, .ref (lb_ad G 0)), (2, .ref (lb_ad G 53)), (3, .int (nI k))] → W p l e room_1 s m #[Value.ref b] below meth c H locs 62 739 (lw_Z below #[Value.ref b] s) (F0 m 1340 ls [])) : ∀ (σ : lb_Mem) (H : Heap) (locs : List Loc) (ls : Array Slot), Rel σ → lb_W G s σ H locs → lv_has ls 4 [(0, .ref b), (1, .ref (lb_ad G 0)), (2, .ref (lb_ad G 53)), (3, .int (nI k))] → W p l e room_1 s m #[Value.ref b] below meth c H locs 62 739 (lw_Z below #[Value.ref b] s) (F0 m 1166 ls []) := by
  have hx := X.1
  have hb := X.2.1
  obtain ⟨i0, i1, i2, i3, i4, i5⟩ := lb_scr hk hL
  intro σ H locs ls hr hW hl
  obtain ⟨r, σ1, σ2, h1, h2, hr2⟩ := hst σ (xs (nI k + 1).toNatClampNeg) (xs (nI k + 2).toNatClampNeg) hr
  refine lv_aload_n hx hb dL_law_1166 rfl (lv_at hl 1 rfl) ?_
  refine lv_aload_n hx hb dL_law_1167 rfl (lv_at hl 0 rfl) ?_
  refine lv_iload_n hx hb dL_law_1168 rfl (lv_at hl 3 rfl) ?_
  refine lv_iconst (v := 1) hx hb dL_law_1169 rfl ?_
  refine lv_iadd hx hb dL_law_1170 ?_
  refine va_sld hx hb hX hbl hbA hW.2 i1 dL_law_1171 ?_
  refine lv_aload_n hx hb dL_law_1172 rfl (lv_at hl 0 rfl) ?_
  refine lv_iload_n hx hb dL_law_1173 rfl (lv_at hl 3 rfl) ?_
  refine lv_iconst (v := 2) hx hb dL_law_1174 rfl ?_
  refine lv_iadd hx hb dL_law_1175 ?_
  refine va_sld hx hb hX hbl hbA hW.2 i2 dL_law_1176 ?_
  refine rc_L_147 X hW h1 ⟨⟨rfl, rfl⟩, Nat.le_of_ble_eq_true rfl, Nat.le_of_ble_eq_true rfl⟩ hl.1 (Nat.le_of_ble_eq_true rfl) dL_law_1177 ⟨Nat.le_of_ble_eq_true rfl, Nat.le_of_ble_eq_true rfl⟩ (fun H locs hW => ?_)
  refine lv_aload_n hx hb dL_law_1180 rfl (lv_at hl 2 rfl) ?_
  refine lv_aload_n hx hb dL_law_1181 rfl (lv_at hl 0 rfl) ?_
  refine lv_iload_n hx hb dL_law_1182 rfl (lv_at hl 3 rfl) ?_
  refine lv_iconst (v := 1) hx hb dL_law_1183 rfl ?_
  refine lv_iadd hx hb dL_law_1184 ?_
  refine va_sld hx hb hX hbl hbA hW.2 i1 dL_law_1185 ?_
  refine lv_aload_n hx hb dL_law_1186 rfl (lv_at hl 0 rfl) ?_
  refine lv_iload_n hx hb dL_law_1187 rfl (lv_at hl 3 rfl) ?_
  refine lv_iconst (v := 2) hx hb dL_law_1188 rfl ?_
  refine lv_iadd hx hb dL_law_1189 ?_
  refine va_sld hx hb hX hbl hbA hW.2 i2 dL_law_1190 ?_
  refine rc_L_150 X hW h2 ⟨⟨rfl, rfl⟩, Nat.le_of_ble_eq_true rfl, Nat.le_of_ble_eq_true rfl⟩ hl.1 (Nat.le_of_ble_eq_true rfl) dL_law_1191 ⟨Nat.le_of_ble_eq_true rfl, Nat.le_of_ble_eq_true rfl⟩ (fun H locs hW => ?_)
  refine lv_icmp_eq (tgt := 1340) hx hb dL_law_1194 (by decide) (fun _ => ?_) (fun z => absurd rfl z)
  exact hnx σ2 _ _ _ hr2 hW (lv_sub hl [0, 1, 2, 3] rfl)
theorem rc_L_151 {p : Program} {l : Launch} {e : Env} {R : Room} {s : State} {m : MethodId} {args : Array Value} {below : List Frame} {meth : Method} {c : Code} {H : Heap} {locs : List Loc} {cells slots : Nat} {Q : State → Prop} {cc : ByteArray} {pc nL : Nat} {ls : Array Slot} {rest : List Value} {G : lb_G} {σ : lb_Mem} {ret : Option FieldType} (X : lb_C G p s m args meth c cc nL RL ret) (hW : lb_W G s σ H locs) {x1 : Int32} {qr : (Int32 × lb_Mem)} (h : f_X8_row x1 σ = some qr) (hR : lb_room rmX8_row R 3) (hls : ls.size = nL) (hrest : (rest.map fun v => v.category).sum ≤ 8) (d : decode cc pc = .ok (.invokevirtual 151, 3)) (hcap : cells ≤ R.cells ∧ slots ≤ R.slots) (kk : ∀ (H1 : Heap) (locs1 : List Loc), lb_W G s qr.2 H1 locs1 → W p l e R s m args below meth c H1 locs1 cells slots Q (F0 m (pc + 3) ls (.int qr.1 :: rest))) : W p l e R s m args below meth c H locs cells slots Q (F0 m pc ls (.int x1 :: .ref (lb_ad G 0) :: rest)) :=
  lb_goI hW (lb_runV (As := [.int x1]) X hW (m_X8_row l G σ x1 qr h) (n := 1) ⟨qw_715, qw_43, qw_718, by decide +kernel⟩ hR qw_716 qw_717 lb_is0 rfl hls hrest d hcap) kk
theorem rc_L_154 {p : Program} {l : Launch} {e : Env} {R : Room} {s : State} {m : MethodId} {args : Array Value} {below : List Frame} {meth : Method} {c : Code} {H : Heap} {locs : List Loc} {cells slots : Nat} {Q : State → Prop} {cc : ByteArray} {pc nL : Nat} {ls : Array Slot} {rest : List Value} {G : lb_G} {σ : lb_Mem} {ret : Option FieldType} (X : lb_C G p s m args meth c cc nL RL ret) (hW : lb_W G s σ H locs) {x1 : Int32} {qr : (Int32 × lb_Mem)} (h : f_X9_row x1 σ = some qr) (hR : lb_room rmX9_row R 3) (hls : ls.size = nL) (hrest : (rest.map fun v => v.category).sum ≤ 8) (d : decode cc pc = .ok (.invokevirtual 154, 3)) (hcap : cells ≤ R.cells ∧ slots ≤ R.slots) (kk : ∀ (H1 : Heap) (locs1 : List Loc), lb_W G s qr.2 H1 locs1 → W p l e R s m args below meth c H1 locs1 cells slots Q (F0 m (pc + 3) ls (.int qr.1 :: rest))) : W p l e R s m args below meth c H locs cells slots Q (F0 m pc ls (.int x1 :: .ref (lb_ad G 53) :: rest)) :=
  lb_goI hW (lb_runV (As := [.int x1]) X hW (m_X9_row l G σ x1 qr h) (n := 1) ⟨qw_1093, qw_52, qw_1096, by decide +kernel⟩ hR qw_1094 qw_1095 lb_is53 rfl hls hrest d hcap) kk
def lb_st_row (Rel : lb_Mem → Prop) : Prop := ∀ (σ : lb_Mem) (x1 : Int32), Rel σ → ∃ (r : Int32) (σ1 σ2 : lb_Mem), f_X8_row x1 σ = some (r, σ1) ∧ f_X9_row x1 σ1 = some (r, σ2) ∧ Rel σ2
set_option maxRecDepth 20000 in
theorem lc_1199 {p : Program} {l : Launch} {e : Env} {s : State} {m : MethodId} {below : List Frame} {meth : Method} {c : Code} {G : lb_G} {b L k : Nat} {xs : Nat → Int32} (X : lb_C G p s m #[Value.ref b] meth c cL_law 4 RL (some .boolean)) (hX : va_X b L xs s s.heap) (hbl : b < s.heap.size) (hbA : ¬ lb_A G b) (hk : k + 5 < L) (hL : L ≤ 3072) {Rel : lb_Mem → Prop} (hst : lb_st_row Rel) (hnx : ∀ (σ : lb_Mem) (H : Heap) (locs : List Loc) (ls : Array Slot), Rel σ → lb_W G s σ H locs → lv_has ls 4 [(0, .ref b), (1, .ref (lb_ad G 0)), (2, .ref (lb_ad G 53)), (3, .int (nI k))] → W p l e room_1 s m #[Value.ref b] below meth c H locs 62 739 (lw_Z below #[Value.ref b] s) (F0 m 1340 ls [])) : ∀ (σ : lb_Mem) (H : Heap) (locs : List Loc) (ls : Array Slot), Rel σ → lb_W G s σ H locs → lv_has ls 4 [(0, .ref b), (1, .ref (lb_ad G 0)), (2, .ref (lb_ad G 53)), (3, .int (nI k))] → W p l e room_1 s m #[Value.ref b] below meth c H locs 62 739 (lw_Z below #[Value.ref b] s) (F0 m 1199 ls []) := by
  have hx := X.1
  have hb := X.2.1
  obtain ⟨i0, i1, i2, i3, i4, i5⟩ := lb_scr hk hL
  intro σ H locs ls hr hW hl
  obtain ⟨r, σ1, σ2, h1, h2, hr2⟩ := hst σ (xs (nI k + 1).toNatClampNeg) hr
  refine lv_aload_n hx hb dL_law_1199 rfl (lv_at hl 1 rfl) ?_
  refine lv_aload_n hx hb dL_law_1200 rfl (lv_at hl 0 rfl) ?_
  refine lv_iload_n hx hb dL_law_1201 rfl (lv_at hl 3 rfl) ?_
  refine lv_iconst (v := 1) hx hb dL_law_1202 rfl ?_
  refine lv_iadd hx hb dL_law_1203 ?_
  refine va_sld hx hb hX hbl hbA hW.2 i1 dL_law_1204 ?_
  refine rc_L_151 X hW h1 ⟨⟨rfl, rfl⟩, Nat.le_of_ble_eq_true rfl, Nat.le_of_ble_eq_true rfl⟩ hl.1 (Nat.le_of_ble_eq_true rfl) dL_law_1205 ⟨Nat.le_of_ble_eq_true rfl, Nat.le_of_ble_eq_true rfl⟩ (fun H locs hW => ?_)
  refine lv_aload_n hx hb dL_law_1208 rfl (lv_at hl 2 rfl) ?_
  refine lv_aload_n hx hb dL_law_1209 rfl (lv_at hl 0 rfl) ?_
  refine lv_iload_n hx hb dL_law_1210 rfl (lv_at hl 3 rfl) ?_
  refine lv_iconst (v := 1) hx hb dL_law_1211 rfl ?_
  refine lv_iadd hx hb dL_law_1212 ?_
  refine va_sld hx hb hX hbl hbA hW.2 i1 dL_law_1213 ?_
  refine rc_L_154 X hW h2 ⟨⟨rfl, rfl⟩, Nat.le_of_ble_eq_true rfl, Nat.le_of_ble_eq_true rfl⟩ hl.1 (Nat.le_of_ble_eq_true rfl) dL_law_1214 ⟨Nat.le_of_ble_eq_true rfl, Nat.le_of_ble_eq_true rfl⟩ (fun H locs hW => ?_)
  refine lv_icmp_eq (tgt := 1340) hx hb dL_law_1217 (by decide) (fun _ => ?_) (fun z => absurd rfl z)
  exact hnx σ2 _ _ _ hr2 hW (lv_sub hl [0, 1, 2, 3] rfl)
theorem rc_L_155 {p : Program} {l : Launch} {e : Env} {R : Room} {s : State} {m : MethodId} {args : Array Value} {below : List Frame} {meth : Method} {c : Code} {H : Heap} {locs : List Loc} {cells slots : Nat} {Q : State → Prop} {cc : ByteArray} {pc nL : Nat} {ls : Array Slot} {rest : List Value} {G : lb_G} {σ : lb_Mem} {ret : Option FieldType} (X : lb_C G p s m args meth c cc nL RL ret) (hW : lb_W G s σ H locs) {qr : (Int32 × lb_Mem)} (h : f_X8_judge σ = some qr) (hR : lb_room rmX8_judge R 3) (hls : ls.size = nL) (hrest : (rest.map fun v => v.category).sum ≤ 8) (d : decode cc pc = .ok (.invokevirtual 155, 3)) (hcap : cells ≤ R.cells ∧ slots ≤ R.slots) (kk : ∀ (H1 : Heap) (locs1 : List Loc), lb_W G s qr.2 H1 locs1 → W p l e R s m args below meth c H1 locs1 cells slots Q (F0 m (pc + 3) ls (.int qr.1 :: rest))) : W p l e R s m args below meth c H locs cells slots Q (F0 m pc ls (.ref (lb_ad G 0) :: rest)) :=
  lb_goI hW (lb_runV (As := []) X hW (m_X8_judge l G σ qr h) (n := 0) ⟨qw_719, qw_43, qw_722, by decide +kernel⟩ hR qw_720 qw_721 lb_is0 rfl hls hrest d hcap) kk
theorem rc_L_158 {p : Program} {l : Launch} {e : Env} {R : Room} {s : State} {m : MethodId} {args : Array Value} {below : List Frame} {meth : Method} {c : Code} {H : Heap} {locs : List Loc} {cells slots : Nat} {Q : State → Prop} {cc : ByteArray} {pc nL : Nat} {ls : Array Slot} {rest : List Value} {G : lb_G} {σ : lb_Mem} {ret : Option FieldType} (X : lb_C G p s m args meth c cc nL RL ret) (hW : lb_W G s σ H locs) {qr : (Int32 × lb_Mem)} (h : f_X9_judge σ = some qr) (hR : lb_room rmX9_judge R 3) (hls : ls.size = nL) (hrest : (rest.map fun v => v.category).sum ≤ 8) (d : decode cc pc = .ok (.invokevirtual 158, 3)) (hcap : cells ≤ R.cells ∧ slots ≤ R.slots) (kk : ∀ (H1 : Heap) (locs1 : List Loc), lb_W G s qr.2 H1 locs1 → W p l e R s m args below meth c H1 locs1 cells slots Q (F0 m (pc + 3) ls (.int qr.1 :: rest))) : W p l e R s m args below meth c H locs cells slots Q (F0 m pc ls (.ref (lb_ad G 53) :: rest)) :=
  lb_goI hW (lb_runV (As := []) X hW (m_X9_judge l G σ qr h) (n := 0) ⟨qw_1097, qw_52, qw_1100, by decide +kernel⟩ hR qw_1098 qw_1099 lb_is53 rfl hls hrest d hcap) kk
def lb_st_judge (Rel : lb_Mem → Prop) : Prop := ∀ (σ : lb_Mem), Rel σ → ∃ (r : Int32) (σ1 σ2 : lb_Mem), f_X8_judge σ = some (r, σ1) ∧ f_X9_judge σ1 = some (r, σ2) ∧ Rel σ2
set_option maxRecDepth 20000 in
theorem lc_1222 {p : Program} {l : Launch} {e : Env} {s : State} {m : MethodId} {below : List Frame} {meth : Method} {c : Code} {G : lb_G} {b L k : Nat} {xs : Nat → Int32} (X : lb_C G p s m #[Value.ref b] meth c cL_law 4 RL (some .boolean)) (hX : va_X b L xs s s.heap) (hbl : b < s.heap.size) (hbA : ¬ lb_A G b) (hk : k + 5 < L) (hL : L ≤ 3072) {Rel : lb_Mem → Prop} (hst : lb_st_judge Rel) (hnx : ∀ (σ : lb_Mem) (H : Heap) (locs : List Loc) (ls : Array Slot), Rel σ → lb_W G s σ H locs → lv_has ls 4 [(0, .ref b), (1, .ref (lb_ad G 0)), (2, .ref (lb_ad G 53)), (3, .int (nI k))] → W p l e room_1 s m #[Value.ref b] below meth c H locs 62 739 (lw_Z below #[Value.ref b] s) (F0 m 1340 ls [])) : ∀ (σ : lb_Mem) (H : Heap) (locs : List Loc) (ls : Array Slot), Rel σ → lb_W G s σ H locs → lv_has ls 4 [(0, .ref b), (1, .ref (lb_ad G 0)), (2, .ref (lb_ad G 53)), (3, .int (nI k))] → W p l e room_1 s m #[Value.ref b] below meth c H locs 62 739 (lw_Z below #[Value.ref b] s) (F0 m 1222 ls []) := by
  have hx := X.1
  have hb := X.2.1
  obtain ⟨i0, i1, i2, i3, i4, i5⟩ := lb_scr hk hL
  intro σ H locs ls hr hW hl
  obtain ⟨r, σ1, σ2, h1, h2, hr2⟩ := hst σ hr
  refine lv_aload_n hx hb dL_law_1222 rfl (lv_at hl 1 rfl) ?_
  refine rc_L_155 X hW h1 ⟨⟨rfl, rfl⟩, Nat.le_of_ble_eq_true rfl, Nat.le_of_ble_eq_true rfl⟩ hl.1 (Nat.le_of_ble_eq_true rfl) dL_law_1223 ⟨Nat.le_of_ble_eq_true rfl, Nat.le_of_ble_eq_true rfl⟩ (fun H locs hW => ?_)
  refine lv_aload_n hx hb dL_law_1226 rfl (lv_at hl 2 rfl) ?_
  refine rc_L_158 X hW h2 ⟨⟨rfl, rfl⟩, Nat.le_of_ble_eq_true rfl, Nat.le_of_ble_eq_true rfl⟩ hl.1 (Nat.le_of_ble_eq_true rfl) dL_law_1227 ⟨Nat.le_of_ble_eq_true rfl, Nat.le_of_ble_eq_true rfl⟩ (fun H locs hW => ?_)
  refine lv_icmp_eq (tgt := 1340) hx hb dL_law_1230 (by decide) (fun _ => ?_) (fun z => absurd rfl z)
  exact hnx σ2 _ _ _ hr2 hW (lv_sub hl [0, 1, 2, 3] rfl)
theorem rc_L_159 {p : Program} {l : Launch} {e : Env} {R : Room} {s : State} {m : MethodId} {args : Array Value} {below : List Frame} {meth : Method} {c : Code} {H : Heap} {locs : List Loc} {cells slots : Nat} {Q : State → Prop} {cc : ByteArray} {pc nL : Nat} {ls : Array Slot} {rest : List Value} {G : lb_G} {σ : lb_Mem} {ret : Option FieldType} (X : lb_C G p s m args meth c cc nL RL ret) (hW : lb_W G s σ H locs) {qr : (Int32 × lb_Mem)} (h : f_X8_clear σ = some qr) (hR : lb_room rmX8_clear R 2) (hls : ls.size = nL) (hrest : (rest.map fun v => v.category).sum ≤ 8) (d : decode cc pc = .ok (.invokevirtual 159, 3)) (hcap : cells ≤ R.cells ∧ slots ≤ R.slots) (kk : ∀ (H1 : Heap) (locs1 : List Loc), lb_W G s qr.2 H1 locs1 → W p l e R s m args below meth c H1 locs1 cells slots Q (F0 m (pc + 3) ls (.int qr.1 :: rest))) : W p l e R s m args below meth c H locs cells slots Q (F0 m pc ls (.ref (lb_ad G 0) :: rest)) :=
  lb_goI hW (lb_runV (As := []) X hW (m_X8_clear l G σ qr h) (n := 0) ⟨qw_723, qw_43, qw_726, by decide +kernel⟩ hR qw_724 qw_725 lb_is0 rfl hls hrest d hcap) kk
theorem rc_L_162 {p : Program} {l : Launch} {e : Env} {R : Room} {s : State} {m : MethodId} {args : Array Value} {below : List Frame} {meth : Method} {c : Code} {H : Heap} {locs : List Loc} {cells slots : Nat} {Q : State → Prop} {cc : ByteArray} {pc nL : Nat} {ls : Array Slot} {rest : List Value} {G : lb_G} {σ : lb_Mem} {ret : Option FieldType} (X : lb_C G p s m args meth c cc nL RL ret) (hW : lb_W G s σ H locs) {qr : (Int32 × lb_Mem)} (h : f_X9_clear σ = some qr) (hR : lb_room rmX9_clear R 2) (hls : ls.size = nL) (hrest : (rest.map fun v => v.category).sum ≤ 8) (d : decode cc pc = .ok (.invokevirtual 162, 3)) (hcap : cells ≤ R.cells ∧ slots ≤ R.slots) (kk : ∀ (H1 : Heap) (locs1 : List Loc), lb_W G s qr.2 H1 locs1 → W p l e R s m args below meth c H1 locs1 cells slots Q (F0 m (pc + 3) ls (.int qr.1 :: rest))) : W p l e R s m args below meth c H locs cells slots Q (F0 m pc ls (.ref (lb_ad G 53) :: rest)) :=
  lb_goI hW (lb_runV (As := []) X hW (m_X9_clear l G σ qr h) (n := 0) ⟨qw_1101, qw_52, qw_1104, by decide +kernel⟩ hR qw_1102 qw_1103 lb_is53 rfl hls hrest d hcap) kk
def lb_st_clear (Rel : lb_Mem → Prop) : Prop := ∀ (σ : lb_Mem), Rel σ → ∃ (r : Int32) (σ1 σ2 : lb_Mem), f_X8_clear σ = some (r, σ1) ∧ f_X9_clear σ1 = some (r, σ2) ∧ Rel σ2
set_option maxRecDepth 20000 in
theorem lc_1235 {p : Program} {l : Launch} {e : Env} {s : State} {m : MethodId} {below : List Frame} {meth : Method} {c : Code} {G : lb_G} {b L k : Nat} {xs : Nat → Int32} (X : lb_C G p s m #[Value.ref b] meth c cL_law 4 RL (some .boolean)) (hX : va_X b L xs s s.heap) (hbl : b < s.heap.size) (hbA : ¬ lb_A G b) (hk : k + 5 < L) (hL : L ≤ 3072) {Rel : lb_Mem → Prop} (hst : lb_st_clear Rel) (hnx : ∀ (σ : lb_Mem) (H : Heap) (locs : List Loc) (ls : Array Slot), Rel σ → lb_W G s σ H locs → lv_has ls 4 [(0, .ref b), (1, .ref (lb_ad G 0)), (2, .ref (lb_ad G 53)), (3, .int (nI k))] → W p l e room_1 s m #[Value.ref b] below meth c H locs 62 739 (lw_Z below #[Value.ref b] s) (F0 m 1340 ls [])) : ∀ (σ : lb_Mem) (H : Heap) (locs : List Loc) (ls : Array Slot), Rel σ → lb_W G s σ H locs → lv_has ls 4 [(0, .ref b), (1, .ref (lb_ad G 0)), (2, .ref (lb_ad G 53)), (3, .int (nI k))] → W p l e room_1 s m #[Value.ref b] below meth c H locs 62 739 (lw_Z below #[Value.ref b] s) (F0 m 1235 ls []) := by
  have hx := X.1
  have hb := X.2.1
  obtain ⟨i0, i1, i2, i3, i4, i5⟩ := lb_scr hk hL
  intro σ H locs ls hr hW hl
  obtain ⟨r, σ1, σ2, h1, h2, hr2⟩ := hst σ hr
  refine lv_aload_n hx hb dL_law_1235 rfl (lv_at hl 1 rfl) ?_
  refine rc_L_159 X hW h1 ⟨⟨rfl, rfl⟩, Nat.le_of_ble_eq_true rfl, Nat.le_of_ble_eq_true rfl⟩ hl.1 (Nat.le_of_ble_eq_true rfl) dL_law_1236 ⟨Nat.le_of_ble_eq_true rfl, Nat.le_of_ble_eq_true rfl⟩ (fun H locs hW => ?_)
  refine lv_aload_n hx hb dL_law_1239 rfl (lv_at hl 2 rfl) ?_
  refine rc_L_162 X hW h2 ⟨⟨rfl, rfl⟩, Nat.le_of_ble_eq_true rfl, Nat.le_of_ble_eq_true rfl⟩ hl.1 (Nat.le_of_ble_eq_true rfl) dL_law_1240 ⟨Nat.le_of_ble_eq_true rfl, Nat.le_of_ble_eq_true rfl⟩ (fun H locs hW => ?_)
  refine lv_icmp_eq (tgt := 1340) hx hb dL_law_1243 (by decide) (fun _ => ?_) (fun z => absurd rfl z)
  exact hnx σ2 _ _ _ hr2 hW (lv_sub hl [0, 1, 2, 3] rfl)
theorem rc_L_163 {p : Program} {l : Launch} {e : Env} {R : Room} {s : State} {m : MethodId} {args : Array Value} {below : List Frame} {meth : Method} {c : Code} {H : Heap} {locs : List Loc} {cells slots : Nat} {Q : State → Prop} {cc : ByteArray} {pc nL : Nat} {ls : Array Slot} {rest : List Value} {G : lb_G} {σ : lb_Mem} {ret : Option FieldType} (X : lb_C G p s m args meth c cc nL RL ret) (hW : lb_W G s σ H locs) {x1 : Int32} {x2 : Int32} {x3 : Int32} {qr : (Int32 × lb_Mem)} (h : f_X8_lots x1 x2 x3 σ = some qr) (hR : lb_room rmX8_lots R 10) (hls : ls.size = nL) (hrest : (rest.map fun v => v.category).sum ≤ 8) (d : decode cc pc = .ok (.invokevirtual 163, 3)) (hcap : cells ≤ R.cells ∧ slots ≤ R.slots) (kk : ∀ (H1 : Heap) (locs1 : List Loc), lb_W G s qr.2 H1 locs1 → W p l e R s m args below meth c H1 locs1 cells slots Q (F0 m (pc + 3) ls (.int qr.1 :: rest))) : W p l e R s m args below meth c H locs cells slots Q (F0 m pc ls (.int x3 :: .int x2 :: .int x1 :: .ref (lb_ad G 0) :: rest)) :=
  lb_goI hW (lb_runV (As := [.int x1, .int x2, .int x3]) X hW (m_X8_lots l G σ x1 x2 x3 qr h) (n := 3) ⟨qw_727, qw_43, qw_730, by decide +kernel⟩ hR qw_728 qw_729 lb_is0 rfl hls hrest d hcap) kk
theorem rc_L_166 {p : Program} {l : Launch} {e : Env} {R : Room} {s : State} {m : MethodId} {args : Array Value} {below : List Frame} {meth : Method} {c : Code} {H : Heap} {locs : List Loc} {cells slots : Nat} {Q : State → Prop} {cc : ByteArray} {pc nL : Nat} {ls : Array Slot} {rest : List Value} {G : lb_G} {σ : lb_Mem} {ret : Option FieldType} (X : lb_C G p s m args meth c cc nL RL ret) (hW : lb_W G s σ H locs) {x1 : Int32} {x2 : Int32} {x3 : Int32} {qr : (Int32 × lb_Mem)} (h : f_X9_lots x1 x2 x3 σ = some qr) (hR : lb_room rmX9_lots R 7) (hls : ls.size = nL) (hrest : (rest.map fun v => v.category).sum ≤ 8) (d : decode cc pc = .ok (.invokevirtual 166, 3)) (hcap : cells ≤ R.cells ∧ slots ≤ R.slots) (kk : ∀ (H1 : Heap) (locs1 : List Loc), lb_W G s qr.2 H1 locs1 → W p l e R s m args below meth c H1 locs1 cells slots Q (F0 m (pc + 3) ls (.int qr.1 :: rest))) : W p l e R s m args below meth c H locs cells slots Q (F0 m pc ls (.int x3 :: .int x2 :: .int x1 :: .ref (lb_ad G 53) :: rest)) :=
  lb_goI hW (lb_runV (As := [.int x1, .int x2, .int x3]) X hW (m_X9_lots l G σ x1 x2 x3 qr h) (n := 3) ⟨qw_1105, qw_52, qw_1108, by decide +kernel⟩ hR qw_1106 qw_1107 lb_is53 rfl hls hrest d hcap) kk
def lb_st_lots (Rel : lb_Mem → Prop) : Prop := ∀ (σ : lb_Mem) (x1 : Int32) (x2 : Int32) (x3 : Int32), Rel σ → ∃ (r : Int32) (σ1 σ2 : lb_Mem), f_X8_lots x1 x2 x3 σ = some (r, σ1) ∧ f_X9_lots x1 x2 x3 σ1 = some (r, σ2) ∧ Rel σ2
set_option maxRecDepth 20000 in
theorem lc_1248 {p : Program} {l : Launch} {e : Env} {s : State} {m : MethodId} {below : List Frame} {meth : Method} {c : Code} {G : lb_G} {b L k : Nat} {xs : Nat → Int32} (X : lb_C G p s m #[Value.ref b] meth c cL_law 4 RL (some .boolean)) (hX : va_X b L xs s s.heap) (hbl : b < s.heap.size) (hbA : ¬ lb_A G b) (hk : k + 5 < L) (hL : L ≤ 3072) {Rel : lb_Mem → Prop} (hst : lb_st_lots Rel) (hnx : ∀ (σ : lb_Mem) (H : Heap) (locs : List Loc) (ls : Array Slot), Rel σ → lb_W G s σ H locs → lv_has ls 4 [(0, .ref b), (1, .ref (lb_ad G 0)), (2, .ref (lb_ad G 53)), (3, .int (nI k))] → W p l e room_1 s m #[Value.ref b] below meth c H locs 62 739 (lw_Z below #[Value.ref b] s) (F0 m 1340 ls [])) : ∀ (σ : lb_Mem) (H : Heap) (locs : List Loc) (ls : Array Slot), Rel σ → lb_W G s σ H locs → lv_has ls 4 [(0, .ref b), (1, .ref (lb_ad G 0)), (2, .ref (lb_ad G 53)), (3, .int (nI k))] → W p l e room_1 s m #[Value.ref b] below meth c H locs 62 739 (lw_Z below #[Value.ref b] s) (F0 m 1248 ls []) := by
  have hx := X.1
  have hb := X.2.1
  obtain ⟨i0, i1, i2, i3, i4, i5⟩ := lb_scr hk hL
  intro σ H locs ls hr hW hl
  obtain ⟨r, σ1, σ2, h1, h2, hr2⟩ := hst σ (xs (nI k + 1).toNatClampNeg) (xs (nI k + 2).toNatClampNeg) (xs (nI k + 3).toNatClampNeg) hr
  refine lv_aload_n hx hb dL_law_1248 rfl (lv_at hl 1 rfl) ?_
  refine lv_aload_n hx hb dL_law_1249 rfl (lv_at hl 0 rfl) ?_
  refine lv_iload_n hx hb dL_law_1250 rfl (lv_at hl 3 rfl) ?_
  refine lv_iconst (v := 1) hx hb dL_law_1251 rfl ?_
  refine lv_iadd hx hb dL_law_1252 ?_
  refine va_sld hx hb hX hbl hbA hW.2 i1 dL_law_1253 ?_
  refine lv_aload_n hx hb dL_law_1254 rfl (lv_at hl 0 rfl) ?_
  refine lv_iload_n hx hb dL_law_1255 rfl (lv_at hl 3 rfl) ?_
  refine lv_iconst (v := 2) hx hb dL_law_1256 rfl ?_
  refine lv_iadd hx hb dL_law_1257 ?_
  refine va_sld hx hb hX hbl hbA hW.2 i2 dL_law_1258 ?_
  refine lv_aload_n hx hb dL_law_1259 rfl (lv_at hl 0 rfl) ?_
  refine lv_iload_n hx hb dL_law_1260 rfl (lv_at hl 3 rfl) ?_
  refine lv_iconst (v := 3) hx hb dL_law_1261 rfl ?_
  refine lv_iadd hx hb dL_law_1262 ?_
  refine va_sld hx hb hX hbl hbA hW.2 i3 dL_law_1263 ?_
  refine rc_L_163 X hW h1 ⟨⟨rfl, rfl⟩, Nat.le_of_ble_eq_true rfl, Nat.le_of_ble_eq_true rfl⟩ hl.1 (Nat.le_of_ble_eq_true rfl) dL_law_1264 ⟨Nat.le_of_ble_eq_true rfl, Nat.le_of_ble_eq_true rfl⟩ (fun H locs hW => ?_)
  refine lv_aload_n hx hb dL_law_1267 rfl (lv_at hl 2 rfl) ?_
  refine lv_aload_n hx hb dL_law_1268 rfl (lv_at hl 0 rfl) ?_
  refine lv_iload_n hx hb dL_law_1269 rfl (lv_at hl 3 rfl) ?_
  refine lv_iconst (v := 1) hx hb dL_law_1270 rfl ?_
  refine lv_iadd hx hb dL_law_1271 ?_
  refine va_sld hx hb hX hbl hbA hW.2 i1 dL_law_1272 ?_
  refine lv_aload_n hx hb dL_law_1273 rfl (lv_at hl 0 rfl) ?_
  refine lv_iload_n hx hb dL_law_1274 rfl (lv_at hl 3 rfl) ?_
  refine lv_iconst (v := 2) hx hb dL_law_1275 rfl ?_
  refine lv_iadd hx hb dL_law_1276 ?_
  refine va_sld hx hb hX hbl hbA hW.2 i2 dL_law_1277 ?_
  refine lv_aload_n hx hb dL_law_1278 rfl (lv_at hl 0 rfl) ?_
  refine lv_iload_n hx hb dL_law_1279 rfl (lv_at hl 3 rfl) ?_
  refine lv_iconst (v := 3) hx hb dL_law_1280 rfl ?_
  refine lv_iadd hx hb dL_law_1281 ?_
  refine va_sld hx hb hX hbl hbA hW.2 i3 dL_law_1282 ?_
  refine rc_L_166 X hW h2 ⟨⟨rfl, rfl⟩, Nat.le_of_ble_eq_true rfl, Nat.le_of_ble_eq_true rfl⟩ hl.1 (Nat.le_of_ble_eq_true rfl) dL_law_1283 ⟨Nat.le_of_ble_eq_true rfl, Nat.le_of_ble_eq_true rfl⟩ (fun H locs hW => ?_)
  refine lv_icmp_eq (tgt := 1340) hx hb dL_law_1286 (by decide) (fun _ => ?_) (fun z => absurd rfl z)
  exact hnx σ2 _ _ _ hr2 hW (lv_sub hl [0, 1, 2, 3] rfl)
theorem rc_L_167 {p : Program} {l : Launch} {e : Env} {R : Room} {s : State} {m : MethodId} {args : Array Value} {below : List Frame} {meth : Method} {c : Code} {H : Heap} {locs : List Loc} {cells slots : Nat} {Q : State → Prop} {cc : ByteArray} {pc nL : Nat} {ls : Array Slot} {rest : List Value} {G : lb_G} {σ : lb_Mem} {ret : Option FieldType} (X : lb_C G p s m args meth c cc nL RL ret) (hW : lb_W G s σ H locs) {qr : (Int32 × lb_Mem)} (h : f_X8_image σ = some qr) (hR : lb_room rmX8_image R 1) (hls : ls.size = nL) (hrest : (rest.map fun v => v.category).sum ≤ 8) (d : decode cc pc = .ok (.invokevirtual 167, 3)) (hcap : cells ≤ R.cells ∧ slots ≤ R.slots) (kk : ∀ (H1 : Heap) (locs1 : List Loc), lb_W G s qr.2 H1 locs1 → W p l e R s m args below meth c H1 locs1 cells slots Q (F0 m (pc + 3) ls (.int qr.1 :: rest))) : W p l e R s m args below meth c H locs cells slots Q (F0 m pc ls (.ref (lb_ad G 0) :: rest)) :=
  lb_goI hW (lb_runV (As := []) X hW (m_X8_image l G σ qr h) (n := 0) ⟨qw_744, qw_43, qw_747, by decide +kernel⟩ hR qw_745 qw_746 lb_is0 rfl hls hrest d hcap) kk
theorem rc_L_170 {p : Program} {l : Launch} {e : Env} {R : Room} {s : State} {m : MethodId} {args : Array Value} {below : List Frame} {meth : Method} {c : Code} {H : Heap} {locs : List Loc} {cells slots : Nat} {Q : State → Prop} {cc : ByteArray} {pc nL : Nat} {ls : Array Slot} {rest : List Value} {G : lb_G} {σ : lb_Mem} {ret : Option FieldType} (X : lb_C G p s m args meth c cc nL RL ret) (hW : lb_W G s σ H locs) {qr : (Int32 × lb_Mem)} (h : f_X9_image σ = some qr) (hR : lb_room rmX9_image R 1) (hls : ls.size = nL) (hrest : (rest.map fun v => v.category).sum ≤ 8) (d : decode cc pc = .ok (.invokevirtual 170, 3)) (hcap : cells ≤ R.cells ∧ slots ≤ R.slots) (kk : ∀ (H1 : Heap) (locs1 : List Loc), lb_W G s qr.2 H1 locs1 → W p l e R s m args below meth c H1 locs1 cells slots Q (F0 m (pc + 3) ls (.int qr.1 :: rest))) : W p l e R s m args below meth c H locs cells slots Q (F0 m pc ls (.ref (lb_ad G 53) :: rest)) :=
  lb_goI hW (lb_runV (As := []) X hW (m_X9_image l G σ qr h) (n := 0) ⟨qw_1116, qw_52, qw_1119, by decide +kernel⟩ hR qw_1117 qw_1118 lb_is53 rfl hls hrest d hcap) kk
def lb_st_image (Rel : lb_Mem → Prop) : Prop := ∀ (σ : lb_Mem), Rel σ → ∃ (r : Int32) (σ1 σ2 : lb_Mem), f_X8_image σ = some (r, σ1) ∧ f_X9_image σ1 = some (r, σ2) ∧ Rel σ2
set_option maxRecDepth 20000 in
theorem lc_1291 {p : Program} {l : Launch} {e : Env} {s : State} {m : MethodId} {below : List Frame} {meth : Method} {c : Code} {G : lb_G} {b L k : Nat} {xs : Nat → Int32} (X : lb_C G p s m #[Value.ref b] meth c cL_law 4 RL (some .boolean)) (hX : va_X b L xs s s.heap) (hbl : b < s.heap.size) (hbA : ¬ lb_A G b) (hk : k + 5 < L) (hL : L ≤ 3072) {Rel : lb_Mem → Prop} (hst : lb_st_image Rel) (hnx : ∀ (σ : lb_Mem) (H : Heap) (locs : List Loc) (ls : Array Slot), Rel σ → lb_W G s σ H locs → lv_has ls 4 [(0, .ref b), (1, .ref (lb_ad G 0)), (2, .ref (lb_ad G 53)), (3, .int (nI k))] → W p l e room_1 s m #[Value.ref b] below meth c H locs 62 739 (lw_Z below #[Value.ref b] s) (F0 m 1340 ls [])) : ∀ (σ : lb_Mem) (H : Heap) (locs : List Loc) (ls : Array Slot), Rel σ → lb_W G s σ H locs → lv_has ls 4 [(0, .ref b), (1, .ref (lb_ad G 0)), (2, .ref (lb_ad G 53)), (3, .int (nI k))] → W p l e room_1 s m #[Value.ref b] below meth c H locs 62 739 (lw_Z below #[Value.ref b] s) (F0 m 1291 ls []) := by
  have hx := X.1
  have hb := X.2.1
  obtain ⟨i0, i1, i2, i3, i4, i5⟩ := lb_scr hk hL
  intro σ H locs ls hr hW hl
  obtain ⟨r, σ1, σ2, h1, h2, hr2⟩ := hst σ hr
  refine lv_aload_n hx hb dL_law_1291 rfl (lv_at hl 1 rfl) ?_
  refine rc_L_167 X hW h1 ⟨⟨rfl, rfl⟩, Nat.le_of_ble_eq_true rfl, Nat.le_of_ble_eq_true rfl⟩ hl.1 (Nat.le_of_ble_eq_true rfl) dL_law_1292 ⟨Nat.le_of_ble_eq_true rfl, Nat.le_of_ble_eq_true rfl⟩ (fun H locs hW => ?_)
  refine lv_aload_n hx hb dL_law_1295 rfl (lv_at hl 2 rfl) ?_
  refine rc_L_170 X hW h2 ⟨⟨rfl, rfl⟩, Nat.le_of_ble_eq_true rfl, Nat.le_of_ble_eq_true rfl⟩ hl.1 (Nat.le_of_ble_eq_true rfl) dL_law_1296 ⟨Nat.le_of_ble_eq_true rfl, Nat.le_of_ble_eq_true rfl⟩ (fun H locs hW => ?_)
  refine lv_icmp_eq (tgt := 1340) hx hb dL_law_1299 (by decide) (fun _ => ?_) (fun z => absurd rfl z)
  exact hnx σ2 _ _ _ hr2 hW (lv_sub hl [0, 1, 2, 3] rfl)
theorem rc_L_171 {p : Program} {l : Launch} {e : Env} {R : Room} {s : State} {m : MethodId} {args : Array Value} {below : List Frame} {meth : Method} {c : Code} {H : Heap} {locs : List Loc} {cells slots : Nat} {Q : State → Prop} {cc : ByteArray} {pc nL : Nat} {ls : Array Slot} {rest : List Value} {G : lb_G} {σ : lb_Mem} {ret : Option FieldType} (X : lb_C G p s m args meth c cc nL RL ret) (hW : lb_W G s σ H locs) {qr : (Int32 × lb_Mem)} (h : f_X8_on σ = some qr) (hR : lb_room rmX8_on R 1) (hls : ls.size = nL) (hrest : (rest.map fun v => v.category).sum ≤ 8) (d : decode cc pc = .ok (.invokevirtual 171, 3)) (hcap : cells ≤ R.cells ∧ slots ≤ R.slots) (kk : ∀ (H1 : Heap) (locs1 : List Loc), lb_W G s qr.2 H1 locs1 → W p l e R s m args below meth c H1 locs1 cells slots Q (F0 m (pc + 3) ls (.int qr.1 :: rest))) : W p l e R s m args below meth c H locs cells slots Q (F0 m pc ls (.ref (lb_ad G 0) :: rest)) :=
  lb_goI hW (lb_runV (As := []) X hW (m_X8_on l G σ qr h) (n := 0) ⟨qw_748, qw_43, qw_751, by decide +kernel⟩ hR qw_749 qw_750 lb_is0 rfl hls hrest d hcap) kk
theorem rc_L_174 {p : Program} {l : Launch} {e : Env} {R : Room} {s : State} {m : MethodId} {args : Array Value} {below : List Frame} {meth : Method} {c : Code} {H : Heap} {locs : List Loc} {cells slots : Nat} {Q : State → Prop} {cc : ByteArray} {pc nL : Nat} {ls : Array Slot} {rest : List Value} {G : lb_G} {σ : lb_Mem} {ret : Option FieldType} (X : lb_C G p s m args meth c cc nL RL ret) (hW : lb_W G s σ H locs) {qr : (Int32 × lb_Mem)} (h : f_X9_on σ = some qr) (hR : lb_room rmX9_on R 1) (hls : ls.size = nL) (hrest : (rest.map fun v => v.category).sum ≤ 8) (d : decode cc pc = .ok (.invokevirtual 174, 3)) (hcap : cells ≤ R.cells ∧ slots ≤ R.slots) (kk : ∀ (H1 : Heap) (locs1 : List Loc), lb_W G s qr.2 H1 locs1 → W p l e R s m args below meth c H1 locs1 cells slots Q (F0 m (pc + 3) ls (.int qr.1 :: rest))) : W p l e R s m args below meth c H locs cells slots Q (F0 m pc ls (.ref (lb_ad G 53) :: rest)) :=
  lb_goI hW (lb_runV (As := []) X hW (m_X9_on l G σ qr h) (n := 0) ⟨qw_1120, qw_52, qw_1123, by decide +kernel⟩ hR qw_1121 qw_1122 lb_is53 rfl hls hrest d hcap) kk
def lb_st_on (Rel : lb_Mem → Prop) : Prop := ∀ (σ : lb_Mem), Rel σ → ∃ (r : Int32) (σ1 σ2 : lb_Mem), f_X8_on σ = some (r, σ1) ∧ f_X9_on σ1 = some (r, σ2) ∧ Rel σ2
set_option maxRecDepth 20000 in
theorem lc_1304 {p : Program} {l : Launch} {e : Env} {s : State} {m : MethodId} {below : List Frame} {meth : Method} {c : Code} {G : lb_G} {b L k : Nat} {xs : Nat → Int32} (X : lb_C G p s m #[Value.ref b] meth c cL_law 4 RL (some .boolean)) (hX : va_X b L xs s s.heap) (hbl : b < s.heap.size) (hbA : ¬ lb_A G b) (hk : k + 5 < L) (hL : L ≤ 3072) {Rel : lb_Mem → Prop} (hst : lb_st_on Rel) (hnx : ∀ (σ : lb_Mem) (H : Heap) (locs : List Loc) (ls : Array Slot), Rel σ → lb_W G s σ H locs → lv_has ls 4 [(0, .ref b), (1, .ref (lb_ad G 0)), (2, .ref (lb_ad G 53)), (3, .int (nI k))] → W p l e room_1 s m #[Value.ref b] below meth c H locs 62 739 (lw_Z below #[Value.ref b] s) (F0 m 1340 ls [])) : ∀ (σ : lb_Mem) (H : Heap) (locs : List Loc) (ls : Array Slot), Rel σ → lb_W G s σ H locs → lv_has ls 4 [(0, .ref b), (1, .ref (lb_ad G 0)), (2, .ref (lb_ad G 53)), (3, .int (nI k))] → W p l e room_1 s m #[Value.ref b] below meth c H locs 62 739 (lw_Z below #[Value.ref b] s) (F0 m 1304 ls []) := by
  have hx := X.1
  have hb := X.2.1
  obtain ⟨i0, i1, i2, i3, i4, i5⟩ := lb_scr hk hL
  intro σ H locs ls hr hW hl
  obtain ⟨r, σ1, σ2, h1, h2, hr2⟩ := hst σ hr
  refine lv_aload_n hx hb dL_law_1304 rfl (lv_at hl 1 rfl) ?_
  refine rc_L_171 X hW h1 ⟨⟨rfl, rfl⟩, Nat.le_of_ble_eq_true rfl, Nat.le_of_ble_eq_true rfl⟩ hl.1 (Nat.le_of_ble_eq_true rfl) dL_law_1305 ⟨Nat.le_of_ble_eq_true rfl, Nat.le_of_ble_eq_true rfl⟩ (fun H locs hW => ?_)
  refine lv_aload_n hx hb dL_law_1308 rfl (lv_at hl 2 rfl) ?_
  refine rc_L_174 X hW h2 ⟨⟨rfl, rfl⟩, Nat.le_of_ble_eq_true rfl, Nat.le_of_ble_eq_true rfl⟩ hl.1 (Nat.le_of_ble_eq_true rfl) dL_law_1309 ⟨Nat.le_of_ble_eq_true rfl, Nat.le_of_ble_eq_true rfl⟩ (fun H locs hW => ?_)
  refine lv_icmp_eq (tgt := 1340) hx hb dL_law_1312 (by decide) (fun _ => ?_) (fun z => absurd rfl z)
  exact hnx σ2 _ _ _ hr2 hW (lv_sub hl [0, 1, 2, 3] rfl)
theorem rc_L_175 {p : Program} {l : Launch} {e : Env} {R : Room} {s : State} {m : MethodId} {args : Array Value} {below : List Frame} {meth : Method} {c : Code} {H : Heap} {locs : List Loc} {cells slots : Nat} {Q : State → Prop} {cc : ByteArray} {pc nL : Nat} {ls : Array Slot} {rest : List Value} {G : lb_G} {σ : lb_Mem} {ret : Option FieldType} (X : lb_C G p s m args meth c cc nL RL ret) (hW : lb_W G s σ H locs) {x1 : Int32} {qr : Int32} (h : f_X8_count σ x1 = some qr) (hR : lb_room rmX8_count R 2) (hls : ls.size = nL) (hrest : (rest.map fun v => v.category).sum ≤ 8) (d : decode cc pc = .ok (.invokevirtual 175, 3)) (hcap : cells ≤ R.cells ∧ slots ≤ R.slots) (kk : ∀ (H1 : Heap) (locs1 : List Loc), lb_W G s σ H1 locs1 → W p l e R s m args below meth c H1 locs1 cells slots Q (F0 m (pc + 3) ls (.int qr :: rest))) : W p l e R s m args below meth c H locs cells slots Q (F0 m pc ls (.int x1 :: .ref (lb_ad G 0) :: rest)) :=
  lb_goI hW (lb_runV (As := [.int x1]) X hW (m_X8_count l G σ x1 qr h) (n := 1) ⟨qw_752, qw_43, qw_755, by decide +kernel⟩ hR qw_753 qw_754 lb_is0 rfl hls hrest d hcap) kk
theorem rc_L_178 {p : Program} {l : Launch} {e : Env} {R : Room} {s : State} {m : MethodId} {args : Array Value} {below : List Frame} {meth : Method} {c : Code} {H : Heap} {locs : List Loc} {cells slots : Nat} {Q : State → Prop} {cc : ByteArray} {pc nL : Nat} {ls : Array Slot} {rest : List Value} {G : lb_G} {σ : lb_Mem} {ret : Option FieldType} (X : lb_C G p s m args meth c cc nL RL ret) (hW : lb_W G s σ H locs) {x1 : Int32} {qr : Int32} (h : f_X9_count σ x1 = some qr) (hR : lb_room rmX9_count R 4) (hls : ls.size = nL) (hrest : (rest.map fun v => v.category).sum ≤ 8) (d : decode cc pc = .ok (.invokevirtual 178, 3)) (hcap : cells ≤ R.cells ∧ slots ≤ R.slots) (kk : ∀ (H1 : Heap) (locs1 : List Loc), lb_W G s σ H1 locs1 → W p l e R s m args below meth c H1 locs1 cells slots Q (F0 m (pc + 3) ls (.int qr :: rest))) : W p l e R s m args below meth c H locs cells slots Q (F0 m pc ls (.int x1 :: .ref (lb_ad G 53) :: rest)) :=
  lb_goI hW (lb_runV (As := [.int x1]) X hW (m_X9_count l G σ x1 qr h) (n := 1) ⟨qw_1124, qw_52, qw_1127, by decide +kernel⟩ hR qw_1125 qw_1126 lb_is53 rfl hls hrest d hcap) kk
def lb_st_count (Rel : lb_Mem → Prop) : Prop := ∀ (σ : lb_Mem) (x1 : Int32), Rel σ → ∃ (r : Int32), f_X8_count σ x1 = some r ∧ f_X9_count σ x1 = some r
set_option maxRecDepth 20000 in
theorem lc_1317 {p : Program} {l : Launch} {e : Env} {s : State} {m : MethodId} {below : List Frame} {meth : Method} {c : Code} {G : lb_G} {b L k : Nat} {xs : Nat → Int32} (X : lb_C G p s m #[Value.ref b] meth c cL_law 4 RL (some .boolean)) (hX : va_X b L xs s s.heap) (hbl : b < s.heap.size) (hbA : ¬ lb_A G b) (hk : k + 5 < L) (hL : L ≤ 3072) {Rel : lb_Mem → Prop} (hst : lb_st_count Rel) (hnx : ∀ (σ : lb_Mem) (H : Heap) (locs : List Loc) (ls : Array Slot), Rel σ → lb_W G s σ H locs → lv_has ls 4 [(0, .ref b), (1, .ref (lb_ad G 0)), (2, .ref (lb_ad G 53)), (3, .int (nI k))] → W p l e room_1 s m #[Value.ref b] below meth c H locs 62 739 (lw_Z below #[Value.ref b] s) (F0 m 1340 ls [])) : ∀ (σ : lb_Mem) (H : Heap) (locs : List Loc) (ls : Array Slot), Rel σ → lb_W G s σ H locs → lv_has ls 4 [(0, .ref b), (1, .ref (lb_ad G 0)), (2, .ref (lb_ad G 53)), (3, .int (nI k))] → W p l e room_1 s m #[Value.ref b] below meth c H locs 62 739 (lw_Z below #[Value.ref b] s) (F0 m 1317 ls []) := by
  have hx := X.1
  have hb := X.2.1
  obtain ⟨i0, i1, i2, i3, i4, i5⟩ := lb_scr hk hL
  intro σ H locs ls hr hW hl
  obtain ⟨r, h1, h2⟩ := hst σ (xs (nI k + 1).toNatClampNeg) hr
  refine lv_aload_n hx hb dL_law_1317 rfl (lv_at hl 1 rfl) ?_
  refine lv_aload_n hx hb dL_law_1318 rfl (lv_at hl 0 rfl) ?_
  refine lv_iload_n hx hb dL_law_1319 rfl (lv_at hl 3 rfl) ?_
  refine lv_iconst (v := 1) hx hb dL_law_1320 rfl ?_
  refine lv_iadd hx hb dL_law_1321 ?_
  refine va_sld hx hb hX hbl hbA hW.2 i1 dL_law_1322 ?_
  refine rc_L_175 X hW h1 ⟨⟨rfl, rfl⟩, Nat.le_of_ble_eq_true rfl, Nat.le_of_ble_eq_true rfl⟩ hl.1 (Nat.le_of_ble_eq_true rfl) dL_law_1323 ⟨Nat.le_of_ble_eq_true rfl, Nat.le_of_ble_eq_true rfl⟩ (fun H locs hW => ?_)
  refine lv_aload_n hx hb dL_law_1326 rfl (lv_at hl 2 rfl) ?_
  refine lv_aload_n hx hb dL_law_1327 rfl (lv_at hl 0 rfl) ?_
  refine lv_iload_n hx hb dL_law_1328 rfl (lv_at hl 3 rfl) ?_
  refine lv_iconst (v := 1) hx hb dL_law_1329 rfl ?_
  refine lv_iadd hx hb dL_law_1330 ?_
  refine va_sld hx hb hX hbl hbA hW.2 i1 dL_law_1331 ?_
  refine rc_L_178 X hW h2 ⟨⟨rfl, rfl⟩, Nat.le_of_ble_eq_true rfl, Nat.le_of_ble_eq_true rfl⟩ hl.1 (Nat.le_of_ble_eq_true rfl) dL_law_1332 ⟨Nat.le_of_ble_eq_true rfl, Nat.le_of_ble_eq_true rfl⟩ (fun H locs hW => ?_)
  refine lv_icmp_eq (tgt := 1340) hx hb dL_law_1335 (by decide) (fun _ => ?_) (fun z => absurd rfl z)
  exact hnx σ _ _ _ hr hW (lv_sub hl [0, 1, 2, 3] rfl)
def lb_steps (Rel : lb_Mem → Prop) : Prop := lb_st_letter Rel ∧ lb_st_village Rel ∧ lb_st_pot Rel ∧ lb_st_person Rel ∧ lb_st_gains Rel ∧ lb_st_labels Rel ∧ lb_st_gives Rel ∧ lb_st_likes Rel ∧ lb_st_fills Rel ∧ lb_st_turn Rel ∧ lb_st_years Rel ∧ lb_st_personThen Rel ∧ lb_st_fullThen Rel ∧ lb_st_graceThen Rel ∧ lb_st_graceless Rel ∧ lb_st_empties Rel ∧ lb_st_label Rel ∧ lb_st_honest Rel ∧ lb_st_audit Rel ∧ lb_st_change Rel ∧ lb_st_gift Rel ∧ lb_st_deal Rel ∧ lb_st_worst Rel ∧ lb_st_trust Rel ∧ lb_st_shelf Rel ∧ lb_st_sorts Rel ∧ lb_st_fewest Rel ∧ lb_st_warn Rel ∧ lb_st_heir Rel ∧ lb_st_two Rel ∧ lb_st_errs Rel ∧ lb_st_mean Rel ∧ lb_st_whatIn Rel ∧ lb_st_row Rel ∧ lb_st_judge Rel ∧ lb_st_clear Rel ∧ lb_st_lots Rel ∧ lb_st_image Rel ∧ lb_st_on Rel ∧ lb_st_count Rel
set_option maxRecDepth 20000 in
set_option maxHeartbeats 4000000 in
theorem law_loop {p : Program} {l : Launch} {e : Env} {s : State} {m : MethodId} {below : List Frame} {meth : Method} {c : Code} {G : lb_G} {b L : Nat} {xs : Nat → Int32} (X : lb_C G p s m #[Value.ref b] meth c cL_law 4 RL (some .boolean)) (hX : va_X b L xs s s.heap) (hbl : b < s.heap.size) (hbA : ¬ lb_A G b) (hnew : ∀ q, lb_A G q → s.heap.size ≤ q) (hL : L ≤ 3072) {Rel : lb_Mem → Prop} (hst : lb_steps Rel) : ∀ (n k : Nat) (σ : lb_Mem) (H : Heap) (locs : List Loc) (ls : Array Slot), L < k + n → k ≤ L → Rel σ → lb_W G s σ H locs → lv_has ls 4 [(0, .ref b), (1, .ref (lb_ad G 0)), (2, .ref (lb_ad G 53)), (3, .int (nI k))] → W p l e room_1 s m #[Value.ref b] below meth c H locs 62 739 (lw_Z below #[Value.ref b] s) (F0 m 18 ls []) := by
  have hx := X.1
  have hb := X.2.1
  obtain ⟨h_letter, h_village, h_pot, h_person, h_gains, h_labels, h_gives, h_likes, h_fills, h_turn, h_years, h_personThen, h_fullThen, h_graceThen, h_graceless, h_empties, h_label, h_honest, h_audit, h_change, h_gift, h_deal, h_worst, h_trust, h_shelf, h_sorts, h_fewest, h_warn, h_heir, h_two, h_errs, h_mean, h_whatIn, h_row, h_judge, h_clear, h_lots, h_image, h_on, h_count⟩ := hst
  intro n
  induction n with
  | zero =>
    intro k σ H locs ls hn hkL hr hW hl
    refine lv_iload_n hx hb dL_law_18 rfl (lv_at hl 3 rfl) ?_
    refine lv_aload_n hx hb dL_law_19 rfl (lv_at hl 0 rfl) ?_
    refine va_slen hx hb hX hbl hbA hW.2 dL_law_20 ?_
    refine lv_bipush (v := 6) hx hb dL_law_21 rfl ?_
    refine lv_isub hx hb dL_law_23 ?_
    refine lv_icmp_gt (tgt := 1346) hx hb dL_law_24 (by decide) (fun _ => ?_) (fun z => absurd (lb_gt (by omega) hkL hL) z)
    refine lv_iconst (v := 1) hx hb dL_law_1346 rfl ?_
    refine va_forget (fun q hq => hnew _ (hW.2.2.2 q hq)) ?_
    exact lw_ret hx hb X.2.2.2.2.2.2.2 X.2.2.2.2.2.2.1 dL_law_1347
  | succ n ih =>
    intro k σ H locs ls hn hkL hr hW hl
    refine lv_iload_n hx hb dL_law_18 rfl (lv_at hl 3 rfl) ?_
    refine lv_aload_n hx hb dL_law_19 rfl (lv_at hl 0 rfl) ?_
    refine va_slen hx hb hX hbl hbA hW.2 dL_law_20 ?_
    refine lv_bipush (v := 6) hx hb dL_law_21 rfl ?_
    refine lv_isub hx hb dL_law_23 ?_
    by_cases hk : k + 5 < L
    · refine lv_icmp_gt (tgt := 1346) hx hb dL_law_24 (by decide) (fun z => absurd z (lb_ngt hk hL)) (fun _ => ?_)
      obtain ⟨i0, i1, i2, i3, i4, i5⟩ := lb_scr hk hL
      refine lv_aload_n hx hb dL_law_27 rfl (lv_at hl 0 rfl) ?_
      refine lv_iload_n hx hb dL_law_28 rfl (lv_at hl 3 rfl) ?_
      refine va_sld hx hb hX hbl hbA hW.2 i0 dL_law_29 ?_
      refine lv_bipush (v := 63) hx hb dL_law_30 rfl ?_
      refine lv_iand hx hb dL_law_32 ?_
      have hnx : ∀ (σ : lb_Mem) (H : Heap) (locs : List Loc) (ls : Array Slot), Rel σ → lb_W G s σ H locs → lv_has ls 4 [(0, .ref b), (1, .ref (lb_ad G 0)), (2, .ref (lb_ad G 53)), (3, .int (nI k))] → W p l e room_1 s m #[Value.ref b] below meth c H locs 62 739 (lw_Z below #[Value.ref b] s) (F0 m 1340 ls []) := by
        intro σ H locs ls hr hW hl
        refine lv_iinc (v := nI (k + 6)) (lv' := [(3, .int (nI (k + 6))), (0, .ref b), (1, .ref (lb_ad G 0)), (2, .ref (lb_ad G 53))]) hx hb dL_law_1340 hl (k := 3) rfl (by rw [← nI_add]; rfl) (by decide) rfl (fun ls hl => ?_)
        refine lv_goto (tgt := 18) hx hb dL_law_1343 (by decide) ?_
        exact ih (k + 6) σ H locs ls (by omega) (by omega) hr hW (lv_sub hl [1, 2, 3, 0] rfl)
      by_cases c0 : xs (nI k).toNatClampNeg &&& 63 = 0
      · refine lv_tableIn (tgt := 208) hx hb dL_law_33 (by rw [c0]; decide) (by rw [c0]; decide) (off := 175) (by rw [c0]; rfl) (by decide) ?_
        exact lc_208 X hX hbl hbA hk hL h_letter hnx σ H locs ls hr hW hl
      by_cases c1 : xs (nI k).toNatClampNeg &&& 63 = 1
      · refine lv_tableIn (tgt := 231) hx hb dL_law_33 (by rw [c1]; decide) (by rw [c1]; decide) (off := 198) (by rw [c1]; rfl) (by decide) ?_
        exact lc_231 X hX hbl hbA hk hL h_village hnx σ H locs ls hr hW hl
      by_cases c2 : xs (nI k).toNatClampNeg &&& 63 = 2
      · refine lv_tableIn (tgt := 244) hx hb dL_law_33 (by rw [c2]; decide) (by rw [c2]; decide) (off := 211) (by rw [c2]; rfl) (by decide) ?_
        exact lc_244 X hX hbl hbA hk hL h_pot hnx σ H locs ls hr hW hl
      by_cases c3 : xs (nI k).toNatClampNeg &&& 63 = 3
      · refine lv_tableIn (tgt := 277) hx hb dL_law_33 (by rw [c3]; decide) (by rw [c3]; decide) (off := 244) (by rw [c3]; rfl) (by decide) ?_
        exact lc_277 X hX hbl hbA hk hL h_person hnx σ H locs ls hr hW hl
      by_cases c4 : xs (nI k).toNatClampNeg &&& 63 = 4
      · refine lv_tableIn (tgt := 310) hx hb dL_law_33 (by rw [c4]; decide) (by rw [c4]; decide) (off := 277) (by rw [c4]; rfl) (by decide) ?_
        exact lc_310 X hX hbl hbA hk hL h_gains hnx σ H locs ls hr hW hl
      by_cases c5 : xs (nI k).toNatClampNeg &&& 63 = 5
      · refine lv_tableIn (tgt := 343) hx hb dL_law_33 (by rw [c5]; decide) (by rw [c5]; decide) (off := 310) (by rw [c5]; rfl) (by decide) ?_
        exact lc_343 X hX hbl hbA hk hL h_labels hnx σ H locs ls hr hW hl
      by_cases c6 : xs (nI k).toNatClampNeg &&& 63 = 6
      · refine lv_tableIn (tgt := 376) hx hb dL_law_33 (by rw [c6]; decide) (by rw [c6]; decide) (off := 343) (by rw [c6]; rfl) (by decide) ?_
        exact lc_376 X hX hbl hbA hk hL h_gives hnx σ H locs ls hr hW hl
      by_cases c7 : xs (nI k).toNatClampNeg &&& 63 = 7
      · refine lv_tableIn (tgt := 409) hx hb dL_law_33 (by rw [c7]; decide) (by rw [c7]; decide) (off := 376) (by rw [c7]; rfl) (by decide) ?_
        exact lc_409 X hX hbl hbA hk hL h_likes hnx σ H locs ls hr hW hl
      by_cases c8 : xs (nI k).toNatClampNeg &&& 63 = 8
      · refine lv_tableIn (tgt := 442) hx hb dL_law_33 (by rw [c8]; decide) (by rw [c8]; decide) (off := 409) (by rw [c8]; rfl) (by decide) ?_
        exact lc_442 X hX hbl hbA hk hL h_fills hnx σ H locs ls hr hW hl
      by_cases c9 : xs (nI k).toNatClampNeg &&& 63 = 9
      · refine lv_tableIn (tgt := 475) hx hb dL_law_33 (by rw [c9]; decide) (by rw [c9]; decide) (off := 442) (by rw [c9]; rfl) (by decide) ?_
        exact lc_475 X hX hbl hbA hk hL h_turn hnx σ H locs ls hr hW hl
      by_cases c10 : xs (nI k).toNatClampNeg &&& 63 = 10
      · refine lv_tableIn (tgt := 518) hx hb dL_law_33 (by rw [c10]; decide) (by rw [c10]; decide) (off := 485) (by rw [c10]; rfl) (by decide) ?_
        exact lc_518 X hX hbl hbA hk hL h_years hnx σ H locs ls hr hW hl
      by_cases c11 : xs (nI k).toNatClampNeg &&& 63 = 11
      · refine lv_tableIn (tgt := 541) hx hb dL_law_33 (by rw [c11]; decide) (by rw [c11]; decide) (off := 508) (by rw [c11]; rfl) (by decide) ?_
        exact lc_541 X hX hbl hbA hk hL h_personThen hnx σ H locs ls hr hW hl
      by_cases c12 : xs (nI k).toNatClampNeg &&& 63 = 12
      · refine lv_tableIn (tgt := 584) hx hb dL_law_33 (by rw [c12]; decide) (by rw [c12]; decide) (off := 551) (by rw [c12]; rfl) (by decide) ?_
        exact lc_584 X hX hbl hbA hk hL h_fullThen hnx σ H locs ls hr hW hl
      by_cases c13 : xs (nI k).toNatClampNeg &&& 63 = 13
      · refine lv_tableIn (tgt := 617) hx hb dL_law_33 (by rw [c13]; decide) (by rw [c13]; decide) (off := 584) (by rw [c13]; rfl) (by decide) ?_
        exact lc_617 X hX hbl hbA hk hL h_graceThen hnx σ H locs ls hr hW hl
      by_cases c14 : xs (nI k).toNatClampNeg &&& 63 = 14
      · refine lv_tableIn (tgt := 640) hx hb dL_law_33 (by rw [c14]; decide) (by rw [c14]; decide) (off := 607) (by rw [c14]; rfl) (by decide) ?_
        exact lc_640 X hX hbl hbA hk hL h_graceless hnx σ H locs ls hr hW hl
      by_cases c15 : xs (nI k).toNatClampNeg &&& 63 = 15
      · refine lv_tableIn (tgt := 663) hx hb dL_law_33 (by rw [c15]; decide) (by rw [c15]; decide) (off := 630) (by rw [c15]; rfl) (by decide) ?_
        exact lc_663 X hX hbl hbA hk hL h_empties hnx σ H locs ls hr hW hl
      by_cases c16 : xs (nI k).toNatClampNeg &&& 63 = 16
      · refine lv_tableIn (tgt := 686) hx hb dL_law_33 (by rw [c16]; decide) (by rw [c16]; decide) (off := 653) (by rw [c16]; rfl) (by decide) ?_
        exact lc_686 X hX hbl hbA hk hL h_label hnx σ H locs ls hr hW hl
      by_cases c17 : xs (nI k).toNatClampNeg &&& 63 = 17
      · refine lv_tableIn (tgt := 719) hx hb dL_law_33 (by rw [c17]; decide) (by rw [c17]; decide) (off := 686) (by rw [c17]; rfl) (by decide) ?_
        exact lc_719 X hX hbl hbA hk hL h_honest hnx σ H locs ls hr hW hl
      by_cases c18 : xs (nI k).toNatClampNeg &&& 63 = 18
      · refine lv_tableIn (tgt := 742) hx hb dL_law_33 (by rw [c18]; decide) (by rw [c18]; decide) (off := 709) (by rw [c18]; rfl) (by decide) ?_
        exact lc_742 X hX hbl hbA hk hL h_audit hnx σ H locs ls hr hW hl
      by_cases c19 : xs (nI k).toNatClampNeg &&& 63 = 19
      · refine lv_tableIn (tgt := 775) hx hb dL_law_33 (by rw [c19]; decide) (by rw [c19]; decide) (off := 742) (by rw [c19]; rfl) (by decide) ?_
        exact lc_775 X hX hbl hbA hk hL h_change hnx σ H locs ls hr hW hl
      by_cases c20 : xs (nI k).toNatClampNeg &&& 63 = 20
      · refine lv_tableIn (tgt := 798) hx hb dL_law_33 (by rw [c20]; decide) (by rw [c20]; decide) (off := 765) (by rw [c20]; rfl) (by decide) ?_
        exact lc_798 X hX hbl hbA hk hL h_gift hnx σ H locs ls hr hW hl
      by_cases c21 : xs (nI k).toNatClampNeg &&& 63 = 21
      · refine lv_tableIn (tgt := 821) hx hb dL_law_33 (by rw [c21]; decide) (by rw [c21]; decide) (off := 788) (by rw [c21]; rfl) (by decide) ?_
        exact lc_821 X hX hbl hbA hk hL h_deal hnx σ H locs ls hr hW hl
      by_cases c22 : xs (nI k).toNatClampNeg &&& 63 = 22
      · refine lv_tableIn (tgt := 844) hx hb dL_law_33 (by rw [c22]; decide) (by rw [c22]; decide) (off := 811) (by rw [c22]; rfl) (by decide) ?_
        exact lc_844 X hX hbl hbA hk hL h_worst hnx σ H locs ls hr hW hl
      by_cases c23 : xs (nI k).toNatClampNeg &&& 63 = 23
      · refine lv_tableIn (tgt := 867) hx hb dL_law_33 (by rw [c23]; decide) (by rw [c23]; decide) (off := 834) (by rw [c23]; rfl) (by decide) ?_
        exact lc_867 X hX hbl hbA hk hL h_trust hnx σ H locs ls hr hW hl
      by_cases c24 : xs (nI k).toNatClampNeg &&& 63 = 24
      · refine lv_tableIn (tgt := 890) hx hb dL_law_33 (by rw [c24]; decide) (by rw [c24]; decide) (off := 857) (by rw [c24]; rfl) (by decide) ?_
        exact lc_890 X hX hbl hbA hk hL h_shelf hnx σ H locs ls hr hW hl
      by_cases c25 : xs (nI k).toNatClampNeg &&& 63 = 25
      · refine lv_tableIn (tgt := 923) hx hb dL_law_33 (by rw [c25]; decide) (by rw [c25]; decide) (off := 890) (by rw [c25]; rfl) (by decide) ?_
        exact lc_923 X hX hbl hbA hk hL h_sorts hnx σ H locs ls hr hW hl
      by_cases c26 : xs (nI k).toNatClampNeg &&& 63 = 26
      · refine lv_tableIn (tgt := 946) hx hb dL_law_33 (by rw [c26]; decide) (by rw [c26]; decide) (off := 913) (by rw [c26]; rfl) (by decide) ?_
        exact lc_946 X hX hbl hbA hk hL h_fewest hnx σ H locs ls hr hW hl
      by_cases c27 : xs (nI k).toNatClampNeg &&& 63 = 27
      · refine lv_tableIn (tgt := 969) hx hb dL_law_33 (by rw [c27]; decide) (by rw [c27]; decide) (off := 936) (by rw [c27]; rfl) (by decide) ?_
        exact lc_969 X hX hbl hbA hk hL h_warn hnx σ H locs ls hr hW hl
      by_cases c28 : xs (nI k).toNatClampNeg &&& 63 = 28
      · refine lv_tableIn (tgt := 1002) hx hb dL_law_33 (by rw [c28]; decide) (by rw [c28]; decide) (off := 969) (by rw [c28]; rfl) (by decide) ?_
        exact lc_1002 X hX hbl hbA hk hL h_heir hnx σ H locs ls hr hW hl
      by_cases c29 : xs (nI k).toNatClampNeg &&& 63 = 29
      · refine lv_tableIn (tgt := 1035) hx hb dL_law_33 (by rw [c29]; decide) (by rw [c29]; decide) (off := 1002) (by rw [c29]; rfl) (by decide) ?_
        exact lc_1035 X hX hbl hbA hk hL h_two hnx σ H locs ls hr hW hl
      by_cases c30 : xs (nI k).toNatClampNeg &&& 63 = 30
      · refine lv_tableIn (tgt := 1078) hx hb dL_law_33 (by rw [c30]; decide) (by rw [c30]; decide) (off := 1045) (by rw [c30]; rfl) (by decide) ?_
        exact lc_1078 X hX hbl hbA hk hL h_errs hnx σ H locs ls hr hW hl
      by_cases c31 : xs (nI k).toNatClampNeg &&& 63 = 31
      · refine lv_tableIn (tgt := 1142) hx hb dL_law_33 (by rw [c31]; decide) (by rw [c31]; decide) (off := 1109) (by rw [c31]; rfl) (by decide) ?_
        exact lc_1142 X hX hbl hbA hk hL h_mean hnx σ H locs ls hr hW hl
      by_cases c32 : xs (nI k).toNatClampNeg &&& 63 = 32
      · refine lv_tableIn (tgt := 1166) hx hb dL_law_33 (by rw [c32]; decide) (by rw [c32]; decide) (off := 1133) (by rw [c32]; rfl) (by decide) ?_
        exact lc_1166 X hX hbl hbA hk hL h_whatIn hnx σ H locs ls hr hW hl
      by_cases c33 : xs (nI k).toNatClampNeg &&& 63 = 33
      · refine lv_tableIn (tgt := 1199) hx hb dL_law_33 (by rw [c33]; decide) (by rw [c33]; decide) (off := 1166) (by rw [c33]; rfl) (by decide) ?_
        exact lc_1199 X hX hbl hbA hk hL h_row hnx σ H locs ls hr hW hl
      by_cases c34 : xs (nI k).toNatClampNeg &&& 63 = 34
      · refine lv_tableIn (tgt := 1222) hx hb dL_law_33 (by rw [c34]; decide) (by rw [c34]; decide) (off := 1189) (by rw [c34]; rfl) (by decide) ?_
        exact lc_1222 X hX hbl hbA hk hL h_judge hnx σ H locs ls hr hW hl
      by_cases c35 : xs (nI k).toNatClampNeg &&& 63 = 35
      · refine lv_tableIn (tgt := 1235) hx hb dL_law_33 (by rw [c35]; decide) (by rw [c35]; decide) (off := 1202) (by rw [c35]; rfl) (by decide) ?_
        exact lc_1235 X hX hbl hbA hk hL h_clear hnx σ H locs ls hr hW hl
      by_cases c36 : xs (nI k).toNatClampNeg &&& 63 = 36
      · refine lv_tableIn (tgt := 1248) hx hb dL_law_33 (by rw [c36]; decide) (by rw [c36]; decide) (off := 1215) (by rw [c36]; rfl) (by decide) ?_
        exact lc_1248 X hX hbl hbA hk hL h_lots hnx σ H locs ls hr hW hl
      by_cases c37 : xs (nI k).toNatClampNeg &&& 63 = 37
      · refine lv_tableIn (tgt := 1291) hx hb dL_law_33 (by rw [c37]; decide) (by rw [c37]; decide) (off := 1258) (by rw [c37]; rfl) (by decide) ?_
        exact lc_1291 X hX hbl hbA hk hL h_image hnx σ H locs ls hr hW hl
      by_cases c38 : xs (nI k).toNatClampNeg &&& 63 = 38
      · refine lv_tableIn (tgt := 1304) hx hb dL_law_33 (by rw [c38]; decide) (by rw [c38]; decide) (off := 1271) (by rw [c38]; rfl) (by decide) ?_
        exact lc_1304 X hX hbl hbA hk hL h_on hnx σ H locs ls hr hW hl
      by_cases c39 : xs (nI k).toNatClampNeg &&& 63 = 39
      · refine lv_tableIn (tgt := 1317) hx hb dL_law_33 (by rw [c39]; decide) (by rw [c39]; decide) (off := 1284) (by rw [c39]; rfl) (by decide) ?_
        exact lc_1317 X hX hbl hbA hk hL h_count hnx σ H locs ls hr hW hl
      refine lb_tswD (tgt := 1340) (lb_kn_cons c0 (lb_kn_cons c1 (lb_kn_cons c2 (lb_kn_cons c3 (lb_kn_cons c4 (lb_kn_cons c5 (lb_kn_cons c6 (lb_kn_cons c7 (lb_kn_cons c8 (lb_kn_cons c9 (lb_kn_cons c10 (lb_kn_cons c11 (lb_kn_cons c12 (lb_kn_cons c13 (lb_kn_cons c14 (lb_kn_cons c15 (lb_kn_cons c16 (lb_kn_cons c17 (lb_kn_cons c18 (lb_kn_cons c19 (lb_kn_cons c20 (lb_kn_cons c21 (lb_kn_cons c22 (lb_kn_cons c23 (lb_kn_cons c24 (lb_kn_cons c25 (lb_kn_cons c26 (lb_kn_cons c27 (lb_kn_cons c28 (lb_kn_cons c29 (lb_kn_cons c30 (lb_kn_cons c31 (lb_kn_cons c32 (lb_kn_cons c33 (lb_kn_cons c34 (lb_kn_cons c35 (lb_kn_cons c36 (lb_kn_cons c37 (lb_kn_cons c38 (lb_kn_cons c39 lb_kn_nil)))))))))))))))))))))))))))))))))))))))) hx hb dL_law_33 (by decide) (by decide) (by decide) (by decide) (by decide) ?_
      exact hnx σ H locs ls hr hW hl
    · refine lv_icmp_gt (tgt := 1346) hx hb dL_law_24 (by decide) (fun _ => ?_) (fun z => absurd (lb_gt (by omega) hkL hL) z)
      refine lv_iconst (v := 1) hx hb dL_law_1346 rfl ?_
      refine va_forget (fun q hq => hnew _ (hW.2.2.2 q hq)) ?_
      exact lw_ret hx hb X.2.2.2.2.2.2.2 X.2.2.2.2.2.2.1 dL_law_1347
