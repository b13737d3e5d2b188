theorem lb_w_nat : (Cond.native arraycopyName) ∈ lb_tbl := qw_348
theorem lb_w_stat : (Cond.static arraycopyName) ∈ lb_tbl := qw_347
theorem lb_w_sys : (Cond.initialized "java/lang/System") ∈ lb_tbl := qw_59
section LBR
variable {p : Program} {l : Launch} {e : Env} {R : Room} {s : State} {m : MethodId} {args : Array Value} {below : List Frame} {meth : Method} {c : Code} {H : Heap} {locs : List Loc} {cells slots : Nat} {Q : State → Prop}
variable {cc : ByteArray} {pc nL : Nat} {ls : Array Slot} {rest : List Value} {G : lb_G} {σ : lb_Mem} {own : String} {ret : Option FieldType}
theorem lb_get (X : lb_C G p s m args meth c cc nL own ret) (hW : lb_W G s σ H locs) {k ci N idx : Nat} {fs : List Value} {C : String} {T : u_T} (hk : k < 62) (he : lb_cell G k (σ k) = .inr (ci, fs)) (hc : vwCl[ci]? = some (C, T, N)) (hin : ∀ w ∈ u_ws C T N, w ∈ lb_tbl) (j : Nat) (hj : j < N) (hl : Cond.fieldLink own idx (T j).1 (T j).2.1 (T j).2.2.1 ∈ lb_tbl) {v : Value} (hv : fs[j]? = some v) (d : decode cc pc = .ok (.getfield idx, 3))
    (kk : W p l e R s m args below meth c H locs cells slots Q (F0 m (pc + 3) ls (v :: rest))) : W p l e R s m args below meth c H locs cells slots Q (F0 m pc ls (.ref (lb_ad G k) :: rest)) :=
  va_get (D := G.1) (ci := ci) X.1 X.2.1 X.2.2.2.2.1 hin X.2.2.2.1 X.2.2.2.2.2.1.1 hW.1 k (by rw [lb_wl_get hk, he]) hc j hj (X.2.2.2.2.1 _ hl) (fun _ h => h) hv d kk
theorem lb_put (X : lb_C G p s m args meth c cc nL own ret) (hW : lb_W G s σ H locs) {k ci N idx : Nat} {fs : List Value} {C : String} {T : u_T} (hk : k < 62) (he : lb_cell G k (σ k) = .inr (ci, fs)) (hc : vwCl[ci]? = some (C, T, N)) (hin : ∀ w ∈ u_ws C T N, w ∈ lb_tbl) (ty : Nat → FieldType) (hty : ∀ k, k < N → parseFieldDescriptor (T k).2.2.1 = some (ty k)) (hnm : ∀ a, a < N → ∀ b, b < N → a ≠ b → (T a).2.1 ≠ (T b).2.1) (j : Nat) (hj : j < N) (hl : Cond.fieldLink own idx (T j).1 (T j).2.1 (T j).2.2.1 ∈ lb_tbl) (hfin : (T j).2.2.2 = false) {v : Int32} (hn : narrow (ty j) (.int v) = .int v) (hfit : fits (ty j) (.int v) = true) (hlen : j < fs.length)
    (hset : lb_cell G k (upd (σ k) j v) = .inr (ci, fs.set j (.int v))) (d : decode cc pc = .ok (.putfield idx, 3))
    (kk : ∀ (H1 : Heap) (locs1 : List Loc), lb_W G s (lb_sto σ k j v) H1 locs1 → W p l e R s m args below meth c H1 locs1 cells slots Q (F0 m (pc + 3) ls rest)) : W p l e R s m args below meth c H locs cells slots Q (F0 m pc ls (.int v :: .ref (lb_ad G k) :: rest)) :=
  va_put (D := G.1) (ci := ci) (ty := ty j) X.1 X.2.1 X.2.2.2.2.1 hin ty hty hnm X.2.2.2.1 X.2.2.2.2.2.1.1 hW.1 (lb_D X.2.2.2.2.2.1.2.1 σ) hW.2 k (by rw [lb_wl_get hk, he]) hc j hj (X.2.2.2.2.1 _ hl) (fun _ h => h) hfin (hty j hj) hn hfit hlen d
    (fun H1 locs1 h1 _ h3 => kk H1 locs1 ⟨by rw [← hset, lb_wl_set hk] at h1; exact h1, h3⟩)
theorem lb_ild (X : lb_C G p s m args meth c cc nL own ret) (hW : lb_W G s σ H locs) {k n : Nat} (ha : lb_ar k = n + 1) {i : Int32} (hi : vp_in i (n + 1)) (d : decode cc pc = .ok (.iaload, 1))
    (kk : W p l e R s m args below meth c H locs cells slots Q (F0 m (pc + 1) ls (.int (σ k i.toNatClampNeg) :: rest))) : W p l e R s m args below meth c H locs cells slots Q (F0 m pc ls (.int i :: .ref (lb_ad G k) :: rest)) :=
  va_iald (D := G.1) (cl := vwCl) X.1 X.2.1 X.2.2.2.2.2.1.1 hW.1 k 0 (by rw [lb_wl_get (lb_arlt ha), lb_cell_ar ha]) rfl hi d kk
theorem lb_ist (X : lb_C G p s m args meth c cc nL own ret) (hW : lb_W G s σ H locs) {k n : Nat} (ha : lb_ar k = n + 1) {i x : Int32} (hi : vp_in i (n + 1)) (d : decode cc pc = .ok (.iastore, 1))
    (kk : ∀ (H1 : Heap) (locs1 : List Loc), lb_W G s (lb_sto σ k i.toNatClampNeg x) H1 locs1 → W p l e R s m args below meth c H1 locs1 cells slots Q (F0 m (pc + 1) ls rest)) : W p l e R s m args below meth c H locs cells slots Q (F0 m pc ls (.int x :: .int i :: .ref (lb_ad G k) :: rest)) :=
  va_iast (D := G.1) (cl := vwCl) X.1 X.2.1 X.2.2.2.2.2.1.1 hW.1 (lb_D X.2.2.2.2.2.1.2.1 σ) hW.2 k 0 (by rw [lb_wl_get (lb_arlt ha), lb_cell_ar ha]) rfl hi d
    (fun H1 locs1 h1 _ h3 => kk H1 locs1 ⟨by rw [← lb_cell_ar (G := G) ha, lb_wl_set (lb_arlt ha)] at h1; exact h1, h3⟩)
def lb_cpy (σ : lb_Mem) (k0 k1 n : Nat) : lb_Mem := lb_setc σ k1 (va_cpy (σ k0) (σ k1) 0 0 n)
theorem lb_copy (X : lb_C G p s m args meth c cc nL own ret) (hW : lb_W G s σ H locs) (hls : ls.size = nL) {k0 k1 n idx : Nat} (ha : lb_ar k0 = n + 1) (hb : lb_ar k1 = n + 1) {x : Int32} (hx : x.toNatClampNeg = n + 1) (hx0 : ¬ x < 0) (hl : Cond.methodLink own idx arraycopyName ∈ lb_tbl)
    (hframes : 1 ≤ R.frames) (hlocals : (rest.map fun v => v.category).sum + (nativeFrameWords "java/lang/System" "arraycopy" 5 + 11) ≤ R.locals) (d : decode cc pc = .ok (.invokestatic idx, 3))
    (kk : ∀ (H1 : Heap) (locs1 : List Loc), lb_W G s (lb_cpy σ k0 k1 (n + 1)) H1 locs1 → W p l e R s m args below meth c H1 locs1 cells slots Q (F0 m (pc + 3) ls rest)) : W p l e R s m args below meth c H locs cells slots Q (F0 m pc ls (.int x :: .int 0 :: .ref (lb_ad G k1) :: .int 0 :: .ref (lb_ad G k0) :: rest)) :=
  va_copyi (D := G.1) (cl := vwCl) (ty := .int) X.1 X.2.1 (by rw [X.2.2.1, hls]) X.2.2.2.1 (X.2.2.2.2.1 _ hl) (X.2.2.2.2.1 _ lb_w_nat) (X.2.2.2.2.1 _ lb_w_stat) (X.2.2.2.2.1 _ lb_w_sys) X.2.2.2.2.2.1.1 hW.1 (lb_D X.2.2.2.2.2.1.2.1 σ) hW.2 k0 k1 0 0 (by rw [lb_wl_get (lb_arlt ha), lb_cell_ar ha]) (by rw [lb_wl_get (lb_arlt hb), lb_cell_ar hb]) rfl rfl rfl
    (by decide) (by decide) hx0 (by rw [hx]; exact Nat.le_of_eq (Nat.zero_add _)) (by rw [hx]; exact Nat.le_of_eq (Nat.zero_add _)) (fun i _ => rfl) hframes hlocals d
    (fun H1 locs1 h1 _ h3 => kk H1 locs1 ⟨by rw [hx, ← lb_cell_ar (G := G) hb, lb_wl_set (lb_arlt hb)] at h1; exact h1, h3⟩)
theorem lb_iret {r : Int32} (X : lb_C G p s m args meth c cc nL own (some .int)) (hW : lb_W G s σ H locs) (d : decode cc pc = .ok (.ireturn, 1)) : W p l e R s m args below meth c H locs cells slots (MQ below (lb_QI G r σ) args s cells slots (lb_A G)) (F0 m pc ls [.int r]) :=
  W.iret X.1 X.2.1 X.2.2.2.2.2.2.2 (fun t ht _ => ⟨⟨r, σ, rfl, ⟨rfl, rfl⟩, by rw [lb_B, ht]; exact hW.1⟩, hW.2.F ht⟩) hW.2.2.2 d X.2.2.2.2.2.2.1
theorem lb_zret {r : Int32} (X : lb_C G p s m args meth c cc nL own (some .boolean)) (hW : lb_W G s σ H locs) (hr : r = 0 ∨ r = 1) (d : decode cc pc = .ok (.ireturn, 1)) : W p l e R s m args below meth c H locs cells slots (MQ below (lb_QI G r σ) args s cells slots (lb_A G)) (F0 m pc ls [.int r]) :=
  W.zret X.1 X.2.1 X.2.2.2.2.2.2.2 (by rcases hr with rfl | rfl <;> rfl) (fun t ht _ => ⟨⟨r, σ, rfl, ⟨rfl, rfl⟩, by rw [lb_B, ht]; exact hW.1⟩, hW.2.F ht⟩) hW.2.2.2 d X.2.2.2.2.2.2.1
theorem lb_lret {r : Int64} (X : lb_C G p s m args meth c cc nL own (some .long)) (hW : lb_W G s σ H locs) (d : decode cc pc = .ok (.lreturn, 1)) : W p l e R s m args below meth c H locs cells slots (MQ below (lb_QL G r σ) args s cells slots (lb_A G)) (F0 m pc ls [.long r]) :=
  W.lret X.1 X.2.1 X.2.2.2.2.2.2.2 (fun t ht _ => ⟨⟨r, σ, rfl, ⟨rfl, rfl⟩, by rw [lb_B, ht]; exact hW.1⟩, hW.2.F ht⟩) hW.2.2.2 d X.2.2.2.2.2.2.1
theorem lb_vret (X : lb_C G p s m args meth c cc nL own none) (hW : lb_W G s σ H locs) (d : decode cc pc = .ok (.return_, 1)) : W p l e R s m args below meth c H locs cells slots (MQ below (lb_QV G σ) args s cells slots (lb_A G)) (F0 m pc ls []) :=
  W.vret X.1 X.2.1 X.2.2.2.2.2.2.2 (fun t ht _ => ⟨⟨σ, rfl, rfl, by rw [lb_B, ht]; exact hW.1⟩, hW.2.F ht⟩) hW.2.2.2 d X.2.2.2.2.2.2.1
/-- what a call of y needs: words and room -/
abbrev lb_call (own : String) (idx : Nat) (y : MethodName) (yc : ByteArray) (yL : Nat) (yr : Option FieldType) (n : Nat) : Prop :=
  Cond.methodLink own idx y ∈ lb_tbl ∧ Cond.initialized y.cls ∈ lb_tbl ∧ Cond.code y yc yL yr ∈ lb_tbl ∧ (y.cls ≠ "java/lang/invoke/MethodHandle" ∧ y.cls ≠ "java/lang/invoke/VarHandle" ∧ (parseMethodDescriptor y.desc).map (fun d => d.parameters.length) = some n)
abbrev lb_room (rm R : Room) (yL : Nat) : Prop := (rm.cells = 0 ∧ rm.slots = 0) ∧ rm.frames + 1 ≤ R.frames ∧ 8 + (yL + 11) + rm.locals ≤ R.locals
variable {y : MethodName} {yc : ByteArray} {yL n idx : Nat} {yr : Option FieldType} {rm : Room} {As : List Value} {σ' : lb_Mem}
theorem lb_cb (X : lb_C G p s m args meth c cc nL own ret) (hc : lb_call own idx y yc yL yr n) (hR : lb_room rm R yL) : CallB R s args own idx y yc yL yr (lb_ws y yc yL yr) rm 0 0 n :=
  callB_of n X.2.2.2.2.1 (lb_goodWs hc.2.2.1) rfl hR.1.1 hR.1.2 (X.2.2.2.2.1 _ hc.2.1) (X.2.2.2.2.1 _ hc.1) hc.2.2.2 hR.2
theorem lb_pre {av : List Value} (X : lb_C G p s m args meth c cc nL own ret) (hW : lb_W G s σ H locs) (U : State) (hU : U.heap = H) (hWm : s.WarmedH U.vm) : va_Pc av (lb_P G σ) av.toArray U :=
  ⟨rfl, by rw [hU]; exact hW.1, X.2.2.2.2.2.1.next hWm hW.2 hU⟩
/-- the object at place b has the class of that name -/
def lb_is (G : lb_G) (σ : lb_Mem) (b : Nat) (C : String) : Prop := b < 62 ∧ ∃ (ci : Nat) (fs : List Value) (q : vw_C), vwCl[ci]? = some q ∧ q.1 = C ∧ lb_cell G b (σ b) = .inr (ci, fs)
theorem lb_recv {b : Nat} {C : String} (X : lb_C G p s m args meth c cc nL own ret) (hW : lb_W G s σ H locs) (h : lb_is G σ b C) : ∃ cell : Cell, H[lb_ad G b]? = some cell ∧ cell.vm.isStatics = false ∧ s.vm.findClass C = some cell.cls := by
  obtain ⟨hb, ci, fs, q, h1, h2, h3⟩ := h
  subst h2
  exact va_recv X.2.2.2.2.2.1.1 hW.1 h1 (by rw [lb_wl_get hb, h3])
theorem lb_runV {Qc : Array Value → State → Outcome → State → Prop} {b : Nat} (X : lb_C G p s m args meth c cc nL own ret) (hW : lb_W G s σ H locs) (hM : lb_M l y yc yL yr rm (.ref (lb_ad G b) :: As) G σ Qc) (hc : lb_call own idx y yc yL yr n) (hR : lb_room rm R yL) (hin : Cond.instanceMethod y ∈ lb_tbl) (hse : Cond.selects y.cls y y ∈ lb_tbl) (hb : lb_is G σ b y.cls) (hn : As.length = n) (hls : ls.size = nL) (hrest : (rest.map fun v => v.category).sum ≤ 8) (d : decode cc pc = .ok (.invokevirtual idx, 3)) (hcap : cells ≤ R.cells ∧ slots ≤ R.slots) :
    va_Run p l e R s m args below meth c H locs cells slots 0 0 (F0 m pc ls (As.reverse ++ .ref (lb_ad G b) :: rest)) rest (Qc (Value.ref (lb_ad G b) :: As).toArray) (lb_A G) :=
  va_runV (Ts := lb_tbl) (own := own) (C := y.cls) ⟨X.1, X.2.1, X.2.2.1, X.2.2.2.1, X.2.2.2.2.1⟩ hM ⟨lb_cb X hc hR, X.2.2.2.2.1 _ hin, X.2.2.2.2.1 _ hse⟩ ⟨lb_P.blind, lb_recv X hW hb, fun U hU hWm => lb_pre X hW U hU hWm⟩ rfl hn hls rfl (lv_room hrest) d ⟨hcap.1, hcap.2⟩
theorem lb_runS {Qc : Array Value → State → Outcome → State → Prop} (X : lb_C G p s m args meth c cc nL own ret) (hW : lb_W G s σ H locs) (hM : lb_M l y yc yL yr rm As G σ Qc) (hc : lb_call own idx y yc yL yr n) (hR : lb_room rm R yL) (hst : Cond.static y ∈ lb_tbl) (hn : As.length = n) (hls : ls.size = nL) (hrest : (rest.map fun v => v.category).sum ≤ 8) (d : decode cc pc = .ok (.invokestatic idx, 3)) (hcap : cells ≤ R.cells ∧ slots ≤ R.slots) :
    va_Run p l e R s m args below meth c H locs cells slots 0 0 (F0 m pc ls (As.reverse ++ rest)) rest (Qc As.toArray) (lb_A G) :=
  va_runS (Ts := lb_tbl) (own := own) ⟨X.1, X.2.1, X.2.2.1, X.2.2.2.1, X.2.2.2.2.1⟩ hM ⟨lb_cb X hc hR, X.2.2.2.2.1 _ hst⟩ ⟨lb_P.blind, fun U hU hWm => lb_pre X hW U hU hWm⟩ rfl hn hls rfl (lv_room hrest) d ⟨hcap.1, hcap.2⟩
theorem lb_goI {st : List Value} {a : Array Value} {r : Int32} (hW : lb_W G s σ H locs) (hr : va_Run p l e R s m args below meth c H locs cells slots 0 0 (F0 m pc ls st) rest (lb_QI G r σ' a) (lb_A G))
    (kk : ∀ (H1 : Heap) (locs1 : List Loc), lb_W G s σ' H1 locs1 → W p l e R s m args below meth c H1 locs1 cells slots Q (F0 m (pc + 3) ls (.int r :: rest))) : W p l e R s m args below meth c H locs cells slots Q (F0 m pc ls st) :=
  va_calli hr hW.2 (fun _ _ h => h) (fun _ h => h) (fun r' u t H1 locs1 ht _ hw hB _ _ hS => by
    obtain ⟨rfl, rfl⟩ := hw
    exact kk H1 locs1 ⟨by rw [lb_B, ht] at hB; exact hB, hS⟩)
theorem lb_goL {st : List Value} {a : Array Value} {r : Int64} (hW : lb_W G s σ H locs) (hr : va_Run p l e R s m args below meth c H locs cells slots 0 0 (F0 m pc ls st) rest (lb_QL G r σ' a) (lb_A G))
    (kk : ∀ (H1 : Heap) (locs1 : List Loc), lb_W G s σ' H1 locs1 → W p l e R s m args below meth c H1 locs1 cells slots Q (F0 m (pc + 3) ls (.long r :: rest))) : W p l e R s m args below meth c H locs cells slots Q (F0 m pc ls st) :=
  va_calll hr hW.2 (fun _ _ h => h) (fun _ h => h) (fun r' u t H1 locs1 ht _ hw hB _ _ hS => by
    obtain ⟨rfl, rfl⟩ := hw
    exact kk H1 locs1 ⟨by rw [lb_B, ht] at hB; exact hB, hS⟩)
theorem lb_goV {st : List Value} {a : Array Value} (hW : lb_W G s σ H locs) (hr : va_Run p l e R s m args below meth c H locs cells slots 0 0 (F0 m pc ls st) rest (lb_QV G σ' a) (lb_A G))
    (kk : ∀ (H1 : Heap) (locs1 : List Loc), lb_W G s σ' H1 locs1 → W p l e R s m args below meth c H1 locs1 cells slots Q (F0 m (pc + 3) ls rest)) : W p l e R s m args below meth c H locs cells slots Q (F0 m pc ls st) :=
  va_callv hr hW.2 (fun _ _ h => h) (fun _ h => h) (fun u t H1 locs1 ht _ hw hB _ _ hS => by
    subst hw
    exact kk H1 locs1 ⟨by rw [lb_B, ht] at hB; exact hB, hS⟩)
end LBR
