def ft_l (x m : Int32) : Nat := if x < 0 ∨ m < x then 1 else 0
theorem ft_l7 (x m : Int32) : ft_l x m < 7 := by unfold ft_l; split <;> omega
theorem ft_l0 {x : Int32} {m : Nat} (hm : m < 2147483648) (h : ft_l x (nI m) = 0) : ∃ n, n ≤ m ∧ x = nI n := by
  unfold ft_l at h
  by_cases c : x < 0 ∨ nI m < x
  · rw [if_pos c] at h; cases h
  · obtain ⟨j, hj, rfl⟩ := lb_ofn (fun z => c (Or.inl z))
    have h2 : ¬ nI m < nI j := fun z => c (Or.inr z)
    rw [lb_lt (by omega) hj] at h2
    exact ⟨j, by omega, rfl⟩
theorem pn_isIn0 (x m : Int32) : f_X9_isIn x 0 m = if ft_l x m = 0 then 1 else 0 := by
  unfold f_X9_isIn ft_l
  by_cases c1 : x < 0
  · rw [if_pos c1, if_pos (Or.inl c1)]; rfl
  · rw [if_neg c1]
    by_cases c2 : m < x
    · rw [if_pos c2, if_pos (Or.inr c2)]; rfl
    · rw [if_neg c2, if_pos (if_neg (fun z => z.elim c1 c2))]
theorem pc_isSort (x : Int32) : f_X7_isSort x = if ft_l x 5 = 0 then 1 else 0 := by
  unfold f_X7_isSort ft_l
  by_cases c1 : x < 0
  · rw [if_pos c1, if_pos (Or.inl c1)]; rfl
  · rw [if_neg c1]
    obtain ⟨j, hj, rfl⟩ := lb_ofn c1
    have e : ((6 : Int32) ≤ nI j) ↔ ((5 : Int32) < nI j) := by
      rw [lb_k6, lb_k5, lb_le (by omega) hj, lb_lt (by omega) hj]
      omega
    by_cases c2 : (5 : Int32) < nI j
    · rw [if_pos (e.mpr c2), if_pos (Or.inr c2)]; rfl
    · rw [if_neg (fun z => c2 (e.mp z)), if_pos (if_neg (fun z => z.elim c1 c2))]
theorem pc_isLabel (x : Int32) : f_X7_isLabel x = if ft_l x 6 = 0 then 1 else 0 := by
  unfold f_X7_isLabel
  rw [pc_isSort]
  by_cases c1 : x < 0
  · have c6 : ¬ x = 6 := fun z => by rw [z] at c1; exact absurd c1 (by decide)
    simp [ft_l, c1, c6]
  · obtain ⟨j, hj, rfl⟩ := lb_ofn c1
    by_cases c2 : (5 : Int32) < nI j
    · have c4 := c2
      rw [lb_k5, lb_lt (by omega) hj] at c4
      by_cases c3 : j = 6
      · subst c3; decide
      · have d1 : ¬ nI j = 6 := by rw [lb_k6, lb_eq hj (by omega)]; exact c3
        have d2 : (6 : Int32) < nI j := by rw [lb_k6, lb_lt (by omega) hj]; omega
        simp [ft_l, c1, c2, d1, d2]
    · have c4 := c2
      rw [lb_k5, lb_lt (by omega) hj] at c4
      have d2 : ¬ (6 : Int32) < nI j := by rw [lb_k6, lb_lt (by omega) hj]; omega
      simp [ft_l, c1, c2, d2]
theorem pn_wrongBy (x a b : Int32) : f_X9_wrongBy x a b = -(nI (ft_w x a b)) := by
  unfold f_X9_wrongBy ft_w
  by_cases c1 : x < a
  · rw [if_neg (Int32.not_le.mpr c1), if_pos c1]; rfl
  · rw [if_pos (Int32.not_lt.mp c1), if_neg c1]
    by_cases c2 : b < x
    · rw [if_neg (Int32.not_le.mpr c2), if_pos c2]; rfl
    · rw [if_pos (Int32.not_lt.mp c2), if_neg c2]; rfl
theorem pc_else {σ : lb_Mem} {S : av_V} {j : Nat} {A : Option (Int32 × lb_Mem)} (h : rs_C σ S) (hj : ¬ j = 0) (h7 : j < 7) : rs_cl σ (if -(nI j) = 0 then A else (f_X8_refuse (-(nI j)) σ).bind (fun q => some (q.1, q.2))) (-(nI j)) (rs_ref S j) := by
  rw [if_neg (fun z => hj ((lb_ng0D j h7).mp z)), lb_bid]
  exact pc_refuse h h7
theorem pn_else {σ : lb_Mem} {S : av_V} {j : Nat} {A : Option (Int32 × lb_Mem)} (h : rs_M σ S) (hj : ¬ j = 0) (h7 : j < 7) : rs_mo σ (if -(nI j) = 0 then A else (f_X9_no (-(nI j)) σ).bind (fun q => some (q.1, q.2))) (-(nI j)) (rs_ref S j) := by
  rw [if_neg (fun z => hj ((lb_ng0D j h7).mp z)), lb_bid]
  exact pn_no h h7
theorem lb_if0 {T : Type} {A B : T} : (if -(nI 0) = (0 : Int32) then A else B) = A := if_pos rfl
theorem lb_if1 {T : Type} {A B : T} {j : Nat} (h : ¬ j = 0) : (if (if j = 0 then (1 : Int32) else 0) = 0 then A else B) = A := if_pos (if_neg h)
theorem lb_ifn {T : Type} {A B : T} {j : Nat} (h : j = 0) : (if (if j = 0 then (1 : Int32) else 0) = 0 then A else B) = B := if_neg (by rw [if_pos h]; decide)
theorem rs_C.same {T : Type} {σ : lb_Mem} {S : av_V} {r : T} (h : rs_C σ S) : rs_cl σ (some (r, σ)) r S := ⟨σ, rfl, h, fun _ _ => rfl⟩
theorem rs_M.same {T : Type} {σ : lb_Mem} {S : av_V} {r : T} (h : rs_M σ S) : rs_mo σ (some (r, σ)) r S := ⟨σ, rfl, h, fun _ _ => rfl⟩
theorem rs_C.set {σ : lb_Mem} {S : av_V} (h : rs_C σ S) {a t : Nat} (x : Nat) (ha : a < 8) (ht : t < av_ln a) : rs_C (lb_sto σ (9 + a) t (nI x)) (av_st S a t x) := by
  obtain ⟨h1, h2, h3, h4, h5, h6, h7, h8⟩ := h
  have e : ∀ k, k < 9 ∨ 17 ≤ k → lb_sto σ (9 + a) t (nI x) k = σ k := fun k hk => lb_sto_o (by omega)
  have f : ∀ b i, 8 ≤ b → av_st S a t x b i = S b i := fun b i hb => av_st_a _ (by omega) _ _ _
  refine ⟨h1.set x ha ht, ?_, ?_, ?_, ?_, fun i hi => ?_, fun i hi => ?_, fun i hi => ?_⟩
  · rw [rs_kv_st (by omega)]; exact h2.cong (fun k a b => e k (by omega))
  · rw [e 0 (by decide), f 9 0 (by decide)]; exact h3
  · rw [e 49 (by decide), f 9 1 (by decide)]; exact h4
  · rw [e 0 (by decide), f 9 2 (by decide)]; exact h5
  · rw [e 50 (by decide), f 10 i (by decide)]; exact h6 i hi
  · rw [e 51 (by decide), f 11 i (by decide)]; exact h7 i hi
  · rw [e 52 (by decide), f 12 i (by decide)]; exact h8 i hi
theorem rs_M.row {σ σ' : lb_Mem} {S S' : av_V} (h : rs_M σ S) (h1 : av_M 54 σ' S') (e : av_fk 54 σ σ') (f : ∀ b i, 9 ≤ b → S' b i = S b i) : rs_M σ' S' := by
  obtain ⟨_, h2, h3, h4, h5, h6, h7, h8⟩ := h
  have ek : rs_kv S' = rs_kv S := by funext b i; exact f _ _ (by omega)
  refine ⟨h1, by rw [ek]; exact h2.cong (e 56 (by decide)), ?_, ?_, ?_, fun i hi => ?_, fun i hi => ?_, fun i hi => ?_⟩
  · rw [e 53 (by decide), f 9 0 (by decide)]; exact h3
  · rw [e 53 (by decide), f 9 1 (by decide)]; exact h4
  · rw [e 53 (by decide), f 9 2 (by decide)]; exact h5
  · rw [e 58 (by decide), f 10 i (by decide)]; exact h6 i hi
  · rw [e 59 (by decide), f 11 i (by decide)]; exact h7 i hi
  · rw [e 60 (by decide), f 12 i (by decide)]; exact h8 i hi
theorem rs_M.setT {σ : lb_Mem} {S : av_V} (h : rs_M σ S) {a t : Nat} (x : Nat) (ha : a < 6) (ht : t < 8) : rs_M (lb_sto σ 54 (3 + 6 * t + a) (nI x)) (av_st S a t x) := h.row (h.1.setT x ha ht) av_fk.sto (fun b i hb => av_st_a _ (by omega) _ _ _)
theorem rs_M.setP {σ : lb_Mem} {S : av_V} (h : rs_M σ S) {a p : Nat} (x : Nat) (ha : a < 2) (hp : p < 5) : rs_M (lb_sto σ 54 (51 + 2 * p + a) (nI x)) (av_st S (6 + a) p x) := h.row (h.1.setP x ha hp) av_fk.sto (fun b i hb => av_st_a _ (by omega) _ _ _)
theorem rs_W.vil {S S' : av_V} (h : rs_W S) (h1 : av_W S') (h2 : S' 8 2 ≤ 999) (f : ∀ b i, 9 ≤ b → S' b i = S b i) : rs_W S' := by
  obtain ⟨_, _, h3, h4, h5, h6, h7, h8, h9⟩ := h
  have ek : rs_kv S' = rs_kv S := by funext b i; exact f _ _ (by omega)
  exact ⟨h1, h2, by rw [ek]; exact h3, by rw [f 28 2 (by decide)]; exact h4, by rw [f 9 0 (by decide)]; exact h5, by rw [f 9 1 (by decide)]; exact h6, by rw [f 9 2 (by decide)]; exact h7, fun i => by rw [f 10 i (by decide)]; exact h8 i, fun i => by rw [f 11 i (by decide)]; exact h9 i⟩
theorem rs_W.set {S : av_V} (h : rs_W S) {a i x : Nat} (hx : (a = 0 ∧ x < 6) ∨ (a = 1 ∧ x ≤ 9) ∨ (a = 2 ∧ x < 6) ∨ (a = 3 ∧ x ≤ 6) ∨ (a = 4 ∧ x ≤ 9) ∨ (a = 5 ∧ x < S 8 1) ∨ (a = 6 ∧ x < 6) ∨ (a = 7 ∧ x ≤ 99)) : rs_W (av_st S a i x) := h.vil (h.1.set hx) (by rw [av_st_a _ (by omega)]; exact h.2.1) (fun b j hb => av_st_a _ (by omega) _ _ _)
theorem ft_p1 {S : av_V} {x : Int32} (h : ¬ ft_p S x = 0) : ft_p S x = 1 := by unfold ft_p at h ⊢; split <;> simp_all
theorem ft_q1 {S : av_V} {x : Int32} (h : ¬ ft_q S x = 0) : ft_q S x = 1 := by unfold ft_q at h ⊢; split <;> simp_all
theorem ft_l1 {x m : Int32} (h : ¬ ft_l x m = 0) : ft_l x m = 1 := by unfold ft_l at h ⊢; split <;> simp_all
theorem ft_k2 {x m : Int32} (h : ¬ ft_k x m = 0) : ft_k x m = 2 := by unfold ft_k at h ⊢; split <;> simp_all
theorem ft_kl (x m : Int32) : ft_k x m = 0 ↔ ft_l x m = 0 := by unfold ft_k ft_l; split <;> simp
theorem ft_fz {i j : Nat} (h : i = 0) : ft_f i j = j := if_pos h
theorem ft_fn {i j : Nat} (h : ¬ i = 0) : ft_f i j = i := if_neg h
theorem pn_no1 {σ : lb_Mem} {S : av_V} (h : rs_M σ S) : rs_mo σ (f_X9_no (-1 : Int32) σ) (-(nI 1)) (rs_ref S 1) := pn_no h (j := 1) (by decide)
theorem pn_no2 {σ : lb_Mem} {S : av_V} (h : rs_M σ S) : rs_mo σ (f_X9_no (-2 : Int32) σ) (-(nI 2)) (rs_ref S 2) := pn_no h (j := 2) (by decide)
theorem pn_no3 {σ : lb_Mem} {S : av_V} (h : rs_M σ S) : rs_mo σ (f_X9_no (-3 : Int32) σ) (-(nI 3)) (rs_ref S 3) := pn_no h (j := 3) (by decide)
theorem pn_no4 {σ : lb_Mem} {S : av_V} (h : rs_M σ S) : rs_mo σ (f_X9_no (-4 : Int32) σ) (-(nI 4)) (rs_ref S 4) := pn_no h (j := 4) (by decide)
theorem pn_no6 {σ : lb_Mem} {S : av_V} (h : rs_M σ S) : rs_mo σ (f_X9_no (-6 : Int32) σ) (-(nI 6)) (rs_ref S 6) := pn_no h (j := 6) (by decide)
theorem rs_mo.bid {T : Type} {σ : lb_Mem} {S : av_V} {o : Option (T × lb_Mem)} {r : T} (h : rs_mo σ o r S) : rs_mo σ (o.bind (fun q => some (q.1, q.2))) r S := by rw [lb_bid]; exact h
theorem rs_cl.bid {T : Type} {σ : lb_Mem} {S : av_V} {o : Option (T × lb_Mem)} {r : T} (h : rs_cl σ o r S) : rs_cl σ (o.bind (fun q => some (q.1, q.2))) r S := by rw [lb_bid]; exact h
/-- far refusals -/
theorem pc_far {σ : lb_Mem} {S : av_V} (h : rs_C σ S) {j : Nat} (hj : j < 7) : rs_cl σ (f_X8_refuseFar (-(nI j)) σ) ((1000000000 : Int32) - -(nI j)) (rs_ref S j) := by
  obtain ⟨σ', a, b, c⟩ := pc_refuse h hj
  unfold f_X8_refuseFar
  rw [a]
  exact ⟨σ', rfl, b, c⟩
theorem pn_far {σ : lb_Mem} {S : av_V} (h : rs_M σ S) {j : Nat} (hj : j < 7) : rs_mo σ (f_X9_noFar (-(nI j)) σ) ((1000000000 : Int32) - -(nI j)) (rs_ref S j) := by
  obtain ⟨σ', a, b, c⟩ := pn_no h hj
  unfold f_X9_noFar
  rw [a]
  exact ⟨σ', rfl, b, c⟩
theorem pc_wide {σ : lb_Mem} {S : av_V} (h : rs_C σ S) {j : Nat} (hj : j < 7) : rs_cl σ (f_X8_refuseFarthest (-(nI j)) σ) ((4000000000000000000 : Int64) - (-(nI j)).toInt64) (rs_ref S j) := by
  obtain ⟨σ', a, b, c⟩ := pc_refuse h hj
  unfold f_X8_refuseFarthest
  rw [a]
  exact ⟨σ', rfl, b, c⟩
theorem pn_wide {σ : lb_Mem} {S : av_V} (h : rs_M σ S) {j : Nat} (hj : j < 7) : rs_mo σ (f_X9_noWide (-(nI j)) σ) ((4000000000000000000 : Int64) - (-(nI j)).toInt64) (rs_ref S j) := by
  obtain ⟨σ', a, b, c⟩ := pn_no h hj
  unfold f_X9_noWide
  rw [a]
  exact ⟨σ', rfl, b, c⟩
theorem lb_ifj {T : Type} {A B : T} {j : Nat} (hj : ¬ j = 0) (h7 : j < 7) : (if -(nI j) = (0 : Int32) then A else B) = B := if_neg (fun z => hj ((lb_ng0D j h7).mp z))
theorem pm_potsOf {σ : lb_Mem} {V : av_V} (h : av_M 54 σ V) (hw : av_W V) {p : Nat} (hp : p < 5) : f_X9_potsOf σ (nI p) = some (nI (av_bt (fun t => decide (V 5 t = p)) id (V 8 0))) := by
  have hn := hw.1
  unfold f_X9_potsOf
  refine lb_loop (fun n i => f_X9_potsOf_4 σ n (nI p) (nI (av_bt (fun t => decide (V 5 t = p)) id i)) (nI i)) (V 8 0) lb_N _ (by rw [lb_N300]; omega) (fun n i hi => ?_) (fun n => ?_)
  · show f_X9_potsOf_4 σ (n + 1) _ _ _ = _
    have h7 := hw.2.2.1 i (by omega)
    rw [f_X9_potsOf_4]
    simp (disch := omega) only [lb_k0, lb_k1, lb_k2, lb_k3, lb_k4, lb_k5, lb_k6, lb_k7, lb_k8, lb_k9, lb_k10, lb_k11, lb_k12, lb_k13, lb_k14, lb_k15, lb_k16, lb_k19, lb_k20, lb_k30, lb_k31, lb_k48, lb_k51, lb_k55, lb_k59, lb_k60, lb_k61, lb_k63, lb_k96, lb_k98, lb_k99, lb_k100, lb_k102, lb_k103, lb_k104, lb_k106, lb_k107, lb_k108, lb_k112, lb_k115, lb_k116, lb_k121, lb_k255, lb_k256, lb_k999, lb_ixN, lb_chkT, lb_letS, lb_bndS, lb_cl, lb_le, lb_lt, lb_eq, lb_ad1, lb_sb1, lb_ml1, pm_oT, h.t5, h.np, lb_shl, lb_or1]
    rw [if_neg (by omega), av_bt]
    by_cases c : V 5 i = p
    · rw [if_pos c, if_pos (by simpa using c)]; rfl
    · rw [if_neg c, if_neg (by simpa using c), Nat.or_zero]
  · show f_X9_potsOf_4 σ (n + 1) _ _ _ = _
    rw [f_X9_potsOf_4]
    simp (disch := omega) only [lb_k0, lb_k1, lb_k2, lb_k3, lb_k4, lb_k5, lb_k6, lb_k7, lb_k8, lb_k9, lb_k10, lb_k11, lb_k12, lb_k13, lb_k14, lb_k15, lb_k16, lb_k19, lb_k20, lb_k30, lb_k31, lb_k48, lb_k51, lb_k55, lb_k59, lb_k60, lb_k61, lb_k63, lb_k96, lb_k98, lb_k99, lb_k100, lb_k102, lb_k103, lb_k104, lb_k106, lb_k107, lb_k108, lb_k112, lb_k115, lb_k116, lb_k121, lb_k255, lb_k256, lb_k999, lb_ixN, lb_chkT, lb_letS, lb_bndS, lb_cl, lb_le, lb_lt, lb_eq, lb_ad1, lb_sb1, lb_ml1, h.np]
    rw [if_pos (Nat.le_refl _)]
theorem rs_rg {f8 f9 : lb_Mem → Option (Int32 × lb_Mem)} {S : av_V} (hw : rs_W S) {j : Nat} (_ : ¬ j = 0) (a : ∀ σ, rs_C σ S → rs_cl σ (f8 σ) (-(nI j)) (rs_ref S j)) (b : ∀ σ, rs_M σ S → rs_mo σ (f9 σ) (-(nI j)) (rs_ref S j)) : ∃ r S', rs_W S' ∧ (∀ σ, rs_C σ S → rs_cl σ (f8 σ) r S') ∧ ∀ σ, rs_M σ S → rs_mo σ (f9 σ) r S' := ⟨_, _, hw.ref j, a, b⟩
theorem rs_rgF {f8 f9 : lb_Mem → Option (Int32 × lb_Mem)} {S : av_V} (hw : rs_W S) {j : Nat} (_ : ¬ j = 0) (a : ∀ σ, rs_C σ S → rs_cl σ (f8 σ) ((1000000000 : Int32) - -(nI j)) (rs_ref S j)) (b : ∀ σ, rs_M σ S → rs_mo σ (f9 σ) ((1000000000 : Int32) - -(nI j)) (rs_ref S j)) : ∃ r S', rs_W S' ∧ (∀ σ, rs_C σ S → rs_cl σ (f8 σ) r S') ∧ ∀ σ, rs_M σ S → rs_mo σ (f9 σ) r S' := ⟨_, _, hw.ref j, a, b⟩
theorem rs_rgL {f8 f9 : lb_Mem → Option (Int64 × lb_Mem)} {S : av_V} (hw : rs_W S) {j : Nat} (_ : ¬ j = 0) (a : ∀ σ, rs_C σ S → rs_cl σ (f8 σ) ((4000000000000000000 : Int64) - (-(nI j)).toInt64) (rs_ref S j)) (b : ∀ σ, rs_M σ S → rs_mo σ (f9 σ) ((4000000000000000000 : Int64) - (-(nI j)).toInt64) (rs_ref S j)) : ∃ r S', rs_W S' ∧ (∀ σ, rs_C σ S → rs_cl σ (f8 σ) r S') ∧ ∀ σ, rs_M σ S → rs_mo σ (f9 σ) r S' := ⟨_, _, hw.ref j, a, b⟩
