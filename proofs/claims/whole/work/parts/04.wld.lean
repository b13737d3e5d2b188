/-! the world: 62 cells in fixed order; what they hold is a function of two places -/
abbrev lb_Mem : Type := Nat → Nat → Int32
abbrev lb_G : Type := va_G × ClassId × ClassId × (Nat → Nat) × (Nat → Nat) × (Nat → Nat)
def lb_cI (G : lb_G) : ClassId := G.2.1
def lb_cJ (G : lb_G) : ClassId := G.2.2.1
def lb_ad (G : lb_G) : Nat → Nat := G.2.2.2.1
def lb_sK (G : lb_G) : Nat → Nat := G.2.2.2.2.1
def lb_sV (G : lb_G) : Nat → Nat := G.2.2.2.2.2
def lb_arL : List Nat := [0, 0, 0, 0, 0, 0, 0, 0, 0, 8, 8, 8, 8, 8, 8, 5, 5, 0, 0, 0, 0, 0, 0, 0, 0, 8, 8, 8, 8, 8, 8, 5, 5, 0, 0, 0, 0, 0, 0, 0, 0, 8, 8, 8, 8, 8, 8, 5, 5, 0, 96, 16, 7, 0, 61, 61, 61, 61, 96, 16, 7, 6]
def lb_ar (k : Nat) : Nat := lb_arL.getD k 0
def lb_cell (G : lb_G) (k : Nat) (f : Nat → Int32) : va_E :=
  if 0 < lb_ar k then .inl (lb_cI G, lb_ar k, .inl f)
  else if k = 0 then .inr (8, [.ref (lb_ad G 1), .ref (lb_ad G 17), .ref (lb_ad G 33), .int (f 3), .ref (lb_ad G 49), .ref (lb_ad G 51), .int (f 6), .ref (lb_ad G 52)])
  else if k = 49 then .inr (4, [.ref (lb_ad G 50), .int (f 1)])
  else if k = 53 then .inr (9, [.ref (lb_ad G 54), .ref (lb_ad G 55), .ref (lb_ad G 56), .ref (lb_ad G 57), .int (f 4), .ref (lb_ad G 58), .ref (lb_ad G 59), .ref (lb_ad G 60), .int (f 8), .int (f 9), .int (f 10), .ref (lb_ad G 61), .int (f 12)])
  else if k % 16 = 1 then .inr (7, [.ref (lb_ad G (k + 1)), .ref (lb_ad G (k + 8)), .ref (lb_ad G (k + 9)), .ref (lb_ad G (k + 10)), .ref (lb_ad G (k + 11)), .ref (lb_ad G (k + 12)), .ref (lb_ad G (k + 13)), .ref (lb_ad G (k + 14)), .ref (lb_ad G (k + 15)), .int (f 9), .int (f 10), .int (f 11)])
  else if k % 16 = 2 then .inl (lb_cJ G, 6, .inr (.inr (.inr (.inr (fun j => some (lb_ad G (k + 1 + j)))))))
  else .inr (([3, 6, 5, 0, 2, 1] : List Nat).getD ((k - 3) % 16) 0, [])
def lb_V (b : Nat) : Prop := b = 1 ∨ b = 17 ∨ b = 33
theorem lb_V1 : lb_V 1 := Or.inl rfl
theorem lb_V17 : lb_V 17 := Or.inr (Or.inl rfl)
theorem lb_V33 : lb_V 33 := Or.inr (Or.inr rfl)
theorem lb_Vlt {b : Nat} (h : lb_V b) : b < 62 := by rcases h with rfl | rfl | rfl <;> decide
theorem lb_arlt {k n : Nat} (h : lb_ar k = n + 1) : k < 62 := by
  rcases Nat.lt_or_ge k 62 with h1 | h1
  · exact h1
  · rw [lb_ar, List.getD_eq_getElem?_getD, List.getElem?_eq_none (by simpa [lb_arL] using h1)] at h
    cases h
theorem lb_cell_ar {G : lb_G} {k n : Nat} {f : Nat → Int32} (h : lb_ar k = n + 1) : lb_cell G k f = .inl (lb_cI G, n + 1, .inl f) := by
  simp [lb_cell, h]
theorem lb_cell_V {G : lb_G} {b : Nat} {f : Nat → Int32} (h : lb_V b) : lb_cell G b f = .inr (7, [.ref (lb_ad G (b + 1)), .ref (lb_ad G (b + 8)), .ref (lb_ad G (b + 9)), .ref (lb_ad G (b + 10)), .ref (lb_ad G (b + 11)), .ref (lb_ad G (b + 12)), .ref (lb_ad G (b + 13)), .ref (lb_ad G (b + 14)), .ref (lb_ad G (b + 15)), .int (f 9), .int (f 10), .int (f 11)]) := by
  rcases h with rfl | rfl | rfl <;> rfl
theorem lb_cell_Q {G : lb_G} {b : Nat} {f : Nat → Int32} (h : lb_V b) : lb_cell G (b + 1) f = .inl (lb_cJ G, 6, .inr (.inr (.inr (.inr (fun j => some (lb_ad G (b + 1 + 1 + j))))))) := by
  rcases h with rfl | rfl | rfl <;> rfl
theorem lb_cell_0 {G : lb_G} {f : Nat → Int32} : lb_cell G 0 f = .inr (8, [.ref (lb_ad G 1), .ref (lb_ad G 17), .ref (lb_ad G 33), .int (f 3), .ref (lb_ad G 49), .ref (lb_ad G 51), .int (f 6), .ref (lb_ad G 52)]) := rfl
theorem lb_cell_49 {G : lb_G} {f : Nat → Int32} : lb_cell G 49 f = .inr (4, [.ref (lb_ad G 50), .int (f 1)]) := rfl
theorem lb_cell_53 {G : lb_G} {f : Nat → Int32} : lb_cell G 53 f = .inr (9, [.ref (lb_ad G 54), .ref (lb_ad G 55), .ref (lb_ad G 56), .ref (lb_ad G 57), .int (f 4), .ref (lb_ad G 58), .ref (lb_ad G 59), .ref (lb_ad G 60), .int (f 8), .int (f 9), .int (f 10), .ref (lb_ad G 61), .int (f 12)]) := rfl
def lb_wl (G : lb_G) (σ : lb_Mem) : va_W := (List.range 62).map (fun k => (lb_ad G k, lb_cell G k (σ k)))
theorem lb_wl_get {G : lb_G} {σ : lb_Mem} {k : Nat} (h : k < 62) : (lb_wl G σ)[k]? = some (lb_ad G k, lb_cell G k (σ k)) := by
  rw [lb_wl, List.getElem?_map, List.getElem?_range h]
  rfl
theorem lb_wl_len (G : lb_G) (σ : lb_Mem) : (lb_wl G σ).length = 62 := by rw [lb_wl, List.length_map, List.length_range]
def lb_setc (σ : lb_Mem) (k : Nat) (f : Nat → Int32) : lb_Mem := fun a => if a = k then f else σ a
def lb_sto (σ : lb_Mem) (k i : Nat) (v : Int32) : lb_Mem := lb_setc σ k (upd (σ k) i v)
theorem lb_wl_set {G : lb_G} {σ : lb_Mem} {k : Nat} (h : k < 62) (f : Nat → Int32) : (lb_wl G σ).set k (lb_ad G k, lb_cell G k f) = lb_wl G (lb_setc σ k f) := by
  apply List.ext_getElem?
  intro i
  rw [List.getElem?_set]
  by_cases hi : k = i
  · subst hi
    rw [if_pos rfl, if_pos (by rw [lb_wl_len]; exact h), lb_wl_get h, lb_setc, if_pos rfl]
  · rw [if_neg hi]
    rcases Nat.lt_or_ge i 62 with h1 | h1
    · rw [lb_wl_get h1, lb_wl_get h1, lb_setc, if_neg (Ne.symm hi)]
    · rw [List.getElem?_eq_none (by rw [lb_wl_len]; exact h1), List.getElem?_eq_none (by rw [lb_wl_len]; exact h1)]
def lb_A (G : lb_G) : Nat → Prop := fun q => ∃ k, k < 62 ∧ q = lb_ad G k
theorem lb_wl_of {G : lb_G} {σ : lb_Mem} {k : Nat} {q : Nat × va_E} (h : (lb_wl G σ)[k]? = some q) : k < 62 ∧ q = (lb_ad G k, lb_cell G k (σ k)) := by
  rcases Nat.lt_or_ge k 62 with h1 | h1
  · rw [lb_wl_get h1] at h
    exact ⟨h1, (Option.some.inj h).symm⟩
  · rw [List.getElem?_eq_none (by rw [lb_wl_len]; exact h1)] at h
    cases h
def lb_inj (G : lb_G) : Prop := ∀ i j : Nat, i < 62 → j < 62 → lb_ad G i = lb_ad G j → i = j
theorem lb_D {G : lb_G} (hi : lb_inj G) (σ : lb_Mem) : va_D (lb_A G) (lb_wl G σ) := by
  refine ⟨fun i j x y h1 h2 h3 => ?_, fun k q h => ?_⟩
  · obtain ⟨g1, rfl⟩ := lb_wl_of h1
    obtain ⟨g2, rfl⟩ := lb_wl_of h2
    exact hi i j g1 g2 h3
  · obtain ⟨g1, rfl⟩ := lb_wl_of h
    exact ⟨k, g1, rfl⟩
abbrev lb_tys (G : lb_G) : List (ClassId × FieldType) := [(lb_cI G, .int), (lb_cJ G, .object RX3)]
def lb_K (G : lb_G) (U : State) : Prop := va_K G.1 vwCl (lb_tys G) U ∧ lb_inj G ∧ vk_R RX4 23 "jtsahb" (lb_sK G 0) U ∧ vk_S 1 [6] [[106, 116, 115, 97, 104, 98]] (lb_sK G) (lb_sV G) (lb_A G) U U.heap ∧ va_Z "java/lang/String" "COMPACT_STRINGS" "Z" (.int 1) (lb_A G) U U.heap
def lb_W (G : lb_G) (s : State) (σ : lb_Mem) (H : Heap) (locs : List Loc) : Prop := va_P G.1 vwCl (lb_wl G σ) H ∧ va_S (lb_A G) s.heap H locs
def lb_C (G : lb_G) (p : Program) (s : State) (m : MethodId) (args : Array Value) (meth : Method) (c : Code) (cc : ByteArray) (nL : Nat) (own : String) (ret : Option FieldType) : Prop :=
  p.tables.exec = Jvm.exec ∧ c.code = cc ∧ c.maxLocals = nL ∧ s.vm.findClass own = some m.cls ∧ (∀ w ∈ lb_tbl, w.before args s = true) ∧ lb_K G s ∧ meth.locks = false ∧ meth.sig.returnType = ret
def lb_ws (y : MethodName) (cc : ByteArray) (nL : Nat) (ret : Option FieldType) : List Cond := Cond.code y cc nL ret :: lb_tbl
def lb_P (G : lb_G) (σ : lb_Mem) : State → Prop := fun U => va_P G.1 vwCl (lb_wl G σ) U.heap ∧ lb_K G U
def lb_B (G : lb_G) : lb_Mem → State → Prop := fun u t => va_P G.1 vwCl (lb_wl G u) t.heap
def lb_QI (G : lb_G) (r : Int32) (σ' : lb_Mem) : Array Value → State → Outcome → State → Prop := va_Qi (fun (r' : Int32) (u : lb_Mem) => r' = r ∧ u = σ') (lb_B G) (lb_A G)
def lb_QL (G : lb_G) (r : Int64) (σ' : lb_Mem) : Array Value → State → Outcome → State → Prop := va_Ql (fun (r' : Int64) (u : lb_Mem) => r' = r ∧ u = σ') (lb_B G) (lb_A G)
def lb_QV (G : lb_G) (σ' : lb_Mem) : Array Value → State → Outcome → State → Prop := va_Qv (fun (u : lb_Mem) => u = σ') (lb_B G) (lb_A G)
def lb_M (l : Launch) (y : MethodName) (cc : ByteArray) (nL : Nat) (ret : Option FieldType) (rm : Room) (av : List Value) (G : lb_G) (σ : lb_Mem) (Qc : Array Value → State → Outcome → State → Prop) : Prop := Met l y (lb_ws y cc nL ret) rm (va_Pc av (lb_P G σ)) Qc 0 0 (lb_A G)
theorem lb_goodTbl {ws : List Cond} (h : ∀ w ∈ ws, w ∈ lb_tbl) : GoodIn lb_tbl ws := fun w hw => ⟨h w hw, good_of_word (lb_all w (h w hw))⟩
theorem lb_goodWs {y : MethodName} {cc : ByteArray} {nL : Nat} {ret : Option FieldType} (h : Cond.code y cc nL ret ∈ lb_tbl) : GoodIn lb_tbl (lb_ws y cc nL ret) := lb_goodTbl (fun w hw => by
  rcases List.mem_cons.mp hw with rfl | h1
  · exact h
  · exact h1)
theorem lb_K.next {G : lb_G} {s U : State} {H : Heap} {locs : List Loc} (h : lb_K G s) (hW : s.WarmedH U.vm) (hS : va_S (lb_A G) s.heap H locs) (hU : U.heap = H) : lb_K G U := by
  obtain ⟨h1, h2, h3, h4, h5⟩ := h
  subst hU
  exact ⟨va_K.moved hW.alike h1, h2, vk_R.warm hW h3, vk_S.moved hW.alike (h4.kept hS.2.1), va_Z.moved hW.alike (h5.kept hS.2.1)⟩
theorem lb_P.blind {G : lb_G} {σ : lb_Mem} {av : List Value} : FrameBlind (va_Pc av (lb_P G σ)) := by
  intro a U g mk q
  obtain ⟨q0, qP, q1, q2, q3, q4, q5⟩ := q
  exact ⟨q0, qP, va_K.moved (u := U) (U := U.calling g mk a) (Vm.Alike.refl U.vm) q1, q2, vk_R.same (u := U) (U := U.calling g mk a) rfl q3, vk_S.moved (u := U) (U := U.calling g mk a) (Vm.Alike.refl U.vm) q4, va_Z.moved (u := U) (U := U.calling g mk a) (Vm.Alike.refl U.vm) q5⟩
theorem lb_start {l : Launch} {y : MethodName} {cc : ByteArray} {nL : Nat} {ret : Option FieldType} {rm : Room} {av : List Value} {G : lb_G} {σ : lb_Mem} {Qc : Array Value → State → Outcome → State → Prop} (own : String) (hy : plainName y.cls = true) (ho : y.cls = own) (hn : (lg_sl av).length ≤ nL)
    (body : ∀ (p : Program) (e : Env) (s : State) (m : MethodId) (below : List Frame) (meth : Method) (c : Code), lb_C G p s m av.toArray meth c cc nL own ret → lb_W G s σ s.heap [] → ∀ ls : Array Slot, lv_has ls nL (lv_args 0 av) → W p l e rm s m av.toArray below meth c s.heap [] 0 0 (MQ below Qc av.toArray s 0 0 (lb_A G)) (F0 m 0 ls [])) :
    lb_M l y cc nL ret rm av G σ Qc := by
  refine Met.ofW (cc := cc) (maxL := nL) (ret := ret) hy rfl ?_
  intro p e s m args below meth c s₁ B hml hv
  obtain ⟨rfl, hP, hK⟩ := hv
  have hts := atoms_spec (ws := lb_ws y cc nL ret) B.pre
  have hown : s.vm.findClass y.cls = some m.cls := findClass_of_methodNamed B.named
  have hl := lv_entry av (n := nL) hn
  rw [lg_entry_eq]
  exact body p e s m below meth c ⟨B.exec, B.bytes, hml, by rw [← ho]; exact hown, fun w hw => hts w (List.mem_cons_of_mem _ hw), hK, B.notSynchronized, B.returns⟩ ⟨hP, va_S.rf⟩ _ hl
