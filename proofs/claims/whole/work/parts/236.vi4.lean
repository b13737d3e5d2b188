/-! the model does -/
def mOb (s : lb_Mem) (o : Option (Int32 × lb_Mem)) (r : Option av_V) : Prop := ∃ s', o = some (obI r, s') ∧ av_fk 54 s s' ∧ ∀ V', r = some V' → av_M 54 s' V'
theorem mOb.n {s : lb_Mem} : mOb s (some ((0 : Int32), s)) none := ⟨s, rfl, av_fk.rf _ _, fun _ h => by cases h⟩
theorem mOb.y {s s' : lb_Mem} {V' : av_V} (f : av_fk 54 s s') (h : av_M 54 s' V') : mOb s (some ((1 : Int32), s')) (some V') := ⟨s', rfl, f, fun _ e => by cases e; exact h⟩
theorem mOb.b {s : lb_Mem} {o : Option (Int32 × lb_Mem)} {r : Option av_V} (h : mOb s o r) : mOb s (o.bind (fun q => lb_chk (lb_isB q.1) (some (q.1, q.2)))) r := by
  obtain ⟨s', e, f, g⟩ := h
  refine ⟨s', ?_, f, g⟩
  rw [e, lb_bndS]
  dsimp only
  rw [obI_B, lb_chkT]
theorem pm_isPot {s : lb_Mem} {V : av_V} (h : av_M 54 s V) (hw : av_W V) {d : Nat} (hd : d < 1000) : f_X9_isPot s (nI d) = if d < V 8 0 then 1 else 0 := by
  have h0 := hw.1
  unfold f_X9_isPot f_X9_isIn
  rw [show (0 : Int32).toNatClampNeg = 0 from rfl, h.np, if_neg (nI_pos (by omega))]
  have e : (nI (V 8 0) - 1 < nI d) ↔ ¬ d < V 8 0 := by
    rw [Int32.lt_iff_toInt_lt, show (1 : Int32) = nI 1 from rfl, pk_sub_toInt (by omega) (by omega), nI_toInt (by omega)]
    omega
  by_cases c : d < V 8 0
  · rw [if_pos c, if_neg (fun z => (e.mp z) c)]
  · rw [if_neg c, if_pos (e.mpr c)]
theorem pm_isPerson {s : lb_Mem} {V : av_V} (h : av_M 54 s V) (hw : av_W V) {d : Nat} (hd : d < 1000) : f_X9_isPerson s (nI d) = if d < V 8 1 then 1 else 0 := by
  have h0 := hw.2.1
  unfold f_X9_isPerson f_X9_isIn
  rw [show (1 : Int32).toNatClampNeg = 1 from rfl, h.nn, if_neg (nI_pos (by omega))]
  have e : (nI (V 8 1) - 1 < nI d) ↔ ¬ d < V 8 1 := by
    rw [Int32.lt_iff_toInt_lt, show (1 : Int32) = nI 1 from rfl, pk_sub_toInt (by omega) (by omega), nI_toInt (by omega)]
    omega
  by_cases c : d < V 8 1
  · rw [if_pos c, if_neg (fun z => (e.mp z) c)]
  · rw [if_neg c, if_pos (e.mpr c)]
theorem pm_addLoop {s : lb_Mem} {V : av_V} (h : av_M 54 s V) (hv : av_W V) (h8 : V 8 0 < 8) {f : Nat → Nat} (hf : ∀ j, j < 6 → s 61 j = nI (f j)) : ∃ s', f_X9_addsPot_50 lb_N (0 : Int32) s = some ((1 : Int32), s') ∧ av_M 54 s' (av_st (ap V (V 8 0) f 6) 8 0 (V 8 0 + 1)) ∧ av_fk 54 s s' := by
  have z0 : (0 : Int32).toNatClampNeg = 0 := rfl
  obtain ⟨n, st, ⟨e1, h1, h2⟩, e⟩ := lb_loopR (fun n (st : Int32 × lb_Mem) => f_X9_addsPot_50 n st.1 st.2) (fun i st => st.1 = nI i ∧ av_M 54 st.2 (ap V (V 8 0) f i) ∧ av_fk 54 s st.2) 6 lb_N (by rw [lb_N300]; omega)
    (fun n i st hi hI => by
      obtain ⟨e1, h1, h2⟩ := hI
      obtain ⟨y, σ⟩ := st
      dsimp only at e1 h1 h2
      subst e1
      refine ⟨(nI (i + 1), lb_sto σ 54 (3 + 6 * V 8 0 + i) (nI (f i))), ⟨rfl, h1.setT (a := i) _ hi h8, h2.tr av_fk.sto⟩, ?_⟩
      show f_X9_addsPot_50 (n + 1) (nI i) σ = f_X9_addsPot_50 n (nI (i + 1)) _
      rw [f_X9_addsPot_50, z0, h1.np, ap_o _ _ _ (by decide) i (by omega), if_neg (by rw [lb_k6, lb_le (by omega) (by omega)]; omega), lb_ixN (show i < 6 from hi) (by decide), lb_chkT, pm_oT, lb_ixN (by omega) (by decide), lb_chkT, lb_letS, lb_cl (by omega), lb_cl (by omega), h2 61 (by decide), hf i hi, show nI i + 1 = nI (i + 1) from nI_1 i])
    (nI 0, s) ⟨rfl, h, av_fk.rf _ _⟩
  obtain ⟨y, σ⟩ := st
  dsimp only at e1 h1 h2 e
  subst e1
  refine ⟨lb_sto σ 54 0 (nI (V 8 0 + 1)), ?_, h1.set8 (j := 0) _ (by decide), h2.tr av_fk.sto⟩
  rw [show (0 : Int32) = nI 0 from rfl, e, f_X9_addsPot_50, if_pos (by decide), lb_letS, z0, h1.np, ap_o _ _ _ (by decide) 6 (by decide), show nI (V 8 0) + 1 = nI (V 8 0 + 1) from nI_1 _]
theorem pm_adds {s : lb_Mem} {V : av_V} (h : av_M 54 s V) (hv : av_W V) {f : Nat → Nat} (hf : ∀ j, j < 6 → s 61 j = nI (f j)) (h9 : ∀ j, j < 6 → f j ≤ 9) : mOb s (f_X9_addsPot s) (if f 2 < 6 ∧ f 3 ≤ 6 ∧ f 5 < V 8 1 ∧ V 8 0 < 8 then some (av_st (ap V (V 8 0) f 6) 8 0 (V 8 0 + 1)) else none) := by
  have hn := hv.1
  have q2 := h9 2 (by decide)
  have q3 := h9 3 (by decide)
  have q5 := h9 5 (by decide)
  unfold f_X9_addsPot
  rw [show (2 : Int32).toNatClampNeg = 2 from rfl, show (3 : Int32).toNatClampNeg = 3 from rfl, show (5 : Int32).toNatClampNeg = 5 from rfl, show (0 : Int32).toNatClampNeg = 0 from rfl, hf 2 (by decide), hf 3 (by decide), hf 5 (by decide), h.np, pm_isPerson h hv (by omega)]
  by_cases k2 : f 2 < 6
  · rw [if_neg (show ¬ (6 : Int32) ≤ nI (f 2) by rw [lb_k6, lb_le (by omega) (by omega)]; omega)]
    by_cases k3 : f 3 ≤ 6
    · rw [if_neg (show ¬ (6 : Int32) < nI (f 3) by rw [lb_k6, lb_lt (by omega) (by omega)]; omega)]
      by_cases k5 : f 5 < V 8 1
      · rw [if_pos k5, if_neg (show ¬ (1 : Int32) = 0 by decide)]
        by_cases k8 : V 8 0 < 8
        · obtain ⟨s', e1, e2, e3⟩ := pm_addLoop h hv k8 hf
          rw [if_neg (show ¬ nI (V 8 0) = 8 by rw [lb_k8, lb_eq (by omega) (by omega)]; omega), if_pos ⟨k2, k3, k5, k8⟩, e1]
          exact mOb.y e3 e2
        · rw [if_pos (show nI (V 8 0) = 8 by rw [lb_k8, lb_eq (by omega) (by omega)]; omega), if_neg (fun z => k8 z.2.2.2)]; exact mOb.n
      · rw [if_neg k5, if_pos rfl, if_neg (fun z => k5 z.2.2.1)]; exact mOb.n
    · rw [if_pos (show (6 : Int32) < nI (f 3) by rw [lb_k6, lb_lt (by omega) (by omega)]; omega), if_neg (fun z => k3 z.2.1)]; exact mOb.n
  · rw [if_pos (show (6 : Int32) ≤ nI (f 2) by rw [lb_k6, lb_le (by omega) (by omega)]; omega), if_neg (fun z => k2 z.1)]; exact mOb.n
theorem pm_isIn {d a b : Nat} (hd : d < 1000) (ha : a < 1000) (hb : b < 1000) : f_X9_isIn (nI d) (nI a) (nI b) = if a ≤ d ∧ d ≤ b then 1 else 0 := by
  unfold f_X9_isIn
  have e1 : (nI d < nI a) ↔ d < a := by rw [lb_lt (by omega) (by omega)]
  have e2 : (nI b < nI d) ↔ b < d := by rw [lb_lt (by omega) (by omega)]
  by_cases c1 : d < a
  · rw [if_pos (e1.mpr c1), if_neg (by omega)]
  · rw [if_neg (fun z => c1 (e1.mp z))]
    by_cases c2 : b < d
    · rw [if_pos (e2.mpr c2), if_neg (by omega)]
    · rw [if_neg (fun z => c2 (e2.mp z)), if_pos (by omega)]
theorem nS_2 {S : av_V} {x : Nat} {s : lb_Mem} (h : nS S x s) (h1 : ¬ vl S x = 106) (h2 : ¬ vl S x = 112) (h3 : ¬ vl S x = 121) : n2 S x s := by
  unfold nS at h
  rw [if_neg h1, if_neg h2, if_neg h3] at h
  exact h
theorem pn_done {s : lb_Mem} {S V : av_V} (h : av_M 54 s V) (hv : av_W V) (hy : V 8 2 ≤ 999) {x : Nat} {u : Unit} (hw : rs_W S) (hs : sf S x = .inr u) (hN : nS S x s) : mOb s (f_X9_isDone (nI (vl S x)) s) (ob S x V) := by
  have hn := hv.1
  have hn1 := hv.2.1
  have hl := vl_le hw x
  have z0 : (0 : Int32).toNatClampNeg = 0 := rfl
  have z1 : (1 : Int32).toNatClampNeg = 1 := rfl
  unfold f_X9_isDone ob
  rw [lb_letS, lb_letS, z0, z1]
  by_cases c1 : vl S x = 102
  · have h4 : vn (vl S x) = 4 := by rw [c1]; rfl
    obtain ⟨d1, _⟩ := dg9 (sf_d (q := x + 1) hs (by omega) (by omega) (by omega))
    obtain ⟨d2, _⟩ := dg9 (sf_d (q := x + 2) hs (by omega) (by omega) (by omega))
    obtain ⟨v1, v2⟩ := nS_2 hN (by omega) (by omega) (by omega)
    rw [if_pos (show nI (vl S x) = 102 by rw [c1]; rfl), if_pos c1, v1, v2, pm_isPot h hv (by omega)]
    by_cases c : dg S (x + 1) < V 8 0
    · rw [if_pos c, if_pos c, if_neg (show ¬ (1 : Int32) = 0 by decide), show f_X9_ofT (nI (dg S (x + 1))) (4 : Int32) = nI (3 + 6 * dg S (x + 1) + 4) from pm_oT _ 4, lb_ixN (by omega) (by decide), lb_chkT, lb_letS, lb_cl (by omega)]
      exact mOb.y av_fk.sto (h.setT (a := 4) _ (by decide) (by omega))
    · rw [if_neg c, if_neg c, if_pos rfl]; exact mOb.n
  rw [if_neg (show ¬ nI (vl S x) = 102 by rw [show (102 : Int32) = nI 102 from rfl, lb_eq (by omega) (by omega)]; exact c1), if_neg c1]
  by_cases c2 : vl S x = 103
  · have h4 : vn (vl S x) = 4 := by rw [c2]; rfl
    obtain ⟨d1, _⟩ := dg9 (sf_d (q := x + 1) hs (by omega) (by omega) (by omega))
    obtain ⟨d2, _⟩ := dg9 (sf_d (q := x + 2) hs (by omega) (by omega) (by omega))
    obtain ⟨v1, v2⟩ := nS_2 hN (by omega) (by omega) (by omega)
    rw [if_pos (show nI (vl S x) = 103 by rw [c2]; rfl), if_pos c2, v1, v2, pm_isPot h hv (by omega), pm_isPerson h hv (by omega)]
    by_cases c : dg S (x + 1) < V 8 0
    · rw [if_pos c, if_neg (show ¬ (1 : Int32) = 0 by decide)]
      by_cases cc : dg S (x + 2) < V 8 1
      · rw [if_pos cc, if_neg (show ¬ (1 : Int32) = 0 by decide), if_pos (show dg S (x + 1) < V 8 0 ∧ dg S (x + 2) < V 8 1 from ⟨c, cc⟩), show f_X9_ofT (nI (dg S (x + 1))) (5 : Int32) = nI (3 + 6 * dg S (x + 1) + 5) from pm_oT _ 5, lb_ixN (by omega) (by decide), lb_chkT, lb_letS, lb_cl (by omega)]
        exact mOb.y av_fk.sto (h.setT (a := 5) _ (by decide) (by omega))
      · rw [if_neg cc, if_pos rfl, if_neg (show ¬ (dg S (x + 1) < V 8 0 ∧ dg S (x + 2) < V 8 1) from fun z => cc z.2)]; exact mOb.n
    · rw [if_neg c, if_pos rfl, if_neg (show ¬ (dg S (x + 1) < V 8 0 ∧ dg S (x + 2) < V 8 1) from fun z => c z.1)]; exact mOb.n
  rw [if_neg (show ¬ nI (vl S x) = 103 by rw [show (103 : Int32) = nI 103 from rfl, lb_eq (by omega) (by omega)]; exact c2), if_neg c2]
  by_cases c3 : vl S x = 106
  · obtain ⟨f0, f9⟩ := fj9 hs c3
    have hf : ∀ j, j < 6 → s 61 j = nI (fj S x j) := by
      unfold nS at hN
      rw [if_pos c3] at hN
      obtain ⟨⟨k, hk, hk0⟩, hj⟩ := hN
      intro j h6
      unfold fj
      by_cases e0 : j = 0
      · subst e0; rw [if_pos rfl, hk]; exact hk0
      · rw [if_neg e0]; exact hj j (by omega) h6
    rw [if_pos (show nI (vl S x) = 106 by rw [c3]; rfl), if_pos c3]
    apply mOb.b
    exact pm_adds h hv hf (fun j h6 => by
      by_cases e0 : j = 0
      · subst e0; omega
      · exact f9 j (by omega) h6)
  rw [if_neg (show ¬ nI (vl S x) = 106 by rw [show (106 : Int32) = nI 106 from rfl, lb_eq (by omega) (by omega)]; exact c3), if_neg c3]
  by_cases c4 : vl S x = 107
  · have h4 : vn (vl S x) = 4 := by rw [c4]; rfl
    obtain ⟨d1, _⟩ := dg9 (sf_d (q := x + 1) hs (by omega) (by omega) (by omega))
    obtain ⟨d2, _⟩ := dg9 (sf_d (q := x + 2) hs (by omega) (by omega) (by omega))
    obtain ⟨v1, v2⟩ := nS_2 hN (by omega) (by omega) (by omega)
    rw [if_pos (show nI (vl S x) = 107 by rw [c4]; rfl), if_pos c4, v1, v2, pm_isPerson h hv (by omega)]
    by_cases c : dg S (x + 1) < V 8 1
    · rw [if_pos c, if_neg (show ¬ (1 : Int32) = 0 by decide)]
      by_cases cc : dg S (x + 2) < 6
      · rw [if_pos (show nI (dg S (x + 2)) < 6 by rw [lb_k6, lb_lt (by omega) (by omega)]; exact cc), if_pos (show dg S (x + 1) < V 8 1 ∧ dg S (x + 2) < 6 from ⟨c, cc⟩), show f_X9_ofP (nI (dg S (x + 1))) (0 : Int32) = nI (51 + 2 * dg S (x + 1) + 0) from pm_oP _ 0, lb_ixN (by omega) (by decide), lb_chkT, lb_letS, lb_cl (by omega)]
        exact mOb.y av_fk.sto (h.setP (a := 0) _ (by decide) (by omega))
      · rw [if_neg (show ¬ nI (dg S (x + 2)) < 6 by rw [lb_k6, lb_lt (by omega) (by omega)]; exact cc), if_neg (show ¬ (dg S (x + 1) < V 8 1 ∧ dg S (x + 2) < 6) from fun z => cc z.2)]; exact mOb.n
    · rw [if_neg c, if_pos rfl, if_neg (show ¬ (dg S (x + 1) < V 8 1 ∧ dg S (x + 2) < 6) from fun z => c z.1)]; exact mOb.n
  rw [if_neg (show ¬ nI (vl S x) = 107 by rw [show (107 : Int32) = nI 107 from rfl, lb_eq (by omega) (by omega)]; exact c4), if_neg c4]
  by_cases c5 : vl S x = 108
  · have h4 : vn (vl S x) = 4 := by rw [c5]; rfl
    obtain ⟨d1, _⟩ := dg9 (sf_d (q := x + 1) hs (by omega) (by omega) (by omega))
    obtain ⟨d2, _⟩ := dg9 (sf_d (q := x + 2) hs (by omega) (by omega) (by omega))
    obtain ⟨v1, v2⟩ := nS_2 hN (by omega) (by omega) (by omega)
    rw [if_pos (show nI (vl S x) = 108 by rw [c5]; rfl), if_pos c5, v1, v2, pm_isPot h hv (by omega)]
    by_cases c : dg S (x + 1) < V 8 0
    · rw [if_pos c, if_neg (show ¬ (1 : Int32) = 0 by decide)]
      by_cases cc : dg S (x + 2) ≤ 6
      · rw [if_pos (show nI (dg S (x + 2)) ≤ 6 by rw [lb_k6, lb_le (by omega) (by omega)]; exact cc), if_pos (show dg S (x + 1) < V 8 0 ∧ dg S (x + 2) ≤ 6 from ⟨c, cc⟩), show f_X9_ofT (nI (dg S (x + 1))) (3 : Int32) = nI (3 + 6 * dg S (x + 1) + 3) from pm_oT _ 3, lb_ixN (by omega) (by decide), lb_chkT, lb_letS, lb_cl (by omega)]
        exact mOb.y av_fk.sto (h.setT (a := 3) _ (by decide) (by omega))
      · rw [if_neg (show ¬ nI (dg S (x + 2)) ≤ 6 by rw [lb_k6, lb_le (by omega) (by omega)]; exact cc), if_neg (show ¬ (dg S (x + 1) < V 8 0 ∧ dg S (x + 2) ≤ 6) from fun z => cc z.2)]; exact mOb.n
    · rw [if_neg c, if_pos rfl, if_neg (show ¬ (dg S (x + 1) < V 8 0 ∧ dg S (x + 2) ≤ 6) from fun z => c z.1)]; exact mOb.n
  rw [if_neg (show ¬ nI (vl S x) = 108 by rw [show (108 : Int32) = nI 108 from rfl, lb_eq (by omega) (by omega)]; exact c5), if_neg c5]
  by_cases c6 : vl S x = 112
  · have h4 : vn (vl S x) = 3 := by rw [c6]; rfl
    obtain ⟨d1, _⟩ := dg9 (sf_d (q := x + 1) hs (by omega) (by omega) (by omega))
    have v1 : s 61 0 = nI (dg S (x + 1)) := by unfold nS at hN; rw [if_neg c3, if_pos c6] at hN; exact hN
    rw [if_pos (show nI (vl S x) = 112 by rw [c6]; rfl), if_pos c6, v1, h.nn]
    by_cases cc : dg S (x + 1) < 6
    · rw [if_neg (show ¬ (6 : Int32) ≤ nI (dg S (x + 1)) by rw [lb_k6, lb_le (by omega) (by omega)]; omega)]
      by_cases c : V 8 1 < 5
      · have s0 := h.setP (a := 0) (p := V 8 1) (dg S (x + 1)) (by decide) c
        have s1 := s0.setP (a := 1) (p := V 8 1) 20 (by decide) c
        have s2 := s1.set8 (j := 1) (V 8 1 + 1) (by decide)
        rw [if_neg (show ¬ nI (V 8 1) = 5 by rw [lb_k5, lb_eq (by omega) (by omega)]; omega), if_pos (show V 8 1 < 5 ∧ dg S (x + 1) < 6 from ⟨c, cc⟩), show f_X9_ofP (nI (V 8 1)) (0 : Int32) = nI (51 + 2 * V 8 1 + 0) from pm_oP _ 0, lb_ixN (show 51 + 2 * V 8 1 + 0 < 61 by omega) (by decide), lb_chkT, lb_letS, lb_cl (by omega), s0.nn, av_st_a _ (by decide), show f_X9_ofP (nI (V 8 1)) (1 : Int32) = nI (51 + 2 * V 8 1 + 1) from pm_oP _ 1, lb_ixN (show 51 + 2 * V 8 1 + 1 < 61 by omega) (by decide), lb_chkT, lb_letS, lb_cl (by omega), show (20 : Int32) = nI 20 from rfl, lb_letS, s1.nn, av_st_a _ (by decide), av_st_a _ (by decide), show nI (V 8 1) + 1 = nI (V 8 1 + 1) from nI_1 _]
        exact mOb.y ((av_fk.sto.tr av_fk.sto).tr av_fk.sto) s2
      · rw [if_pos (show nI (V 8 1) = 5 by rw [lb_k5, lb_eq (by omega) (by omega)]; omega), if_neg (show ¬ (V 8 1 < 5 ∧ dg S (x + 1) < 6) from fun z => c z.1)]; exact mOb.n
    · rw [if_pos (show (6 : Int32) ≤ nI (dg S (x + 1)) by rw [lb_k6, lb_le (by omega) (by omega)]; omega), if_neg (show ¬ (V 8 1 < 5 ∧ dg S (x + 1) < 6) from fun z => cc z.2)]; exact mOb.n
  rw [if_neg (show ¬ nI (vl S x) = 112 by rw [show (112 : Int32) = nI 112 from rfl, lb_eq (by omega) (by omega)]; exact c6), if_neg c6]
  have c7 : vl S x = 121 := by
    have h0 := sf_0 hs
    unfold vn at h0
    rw [if_neg c1, if_neg c2, if_neg c3, if_neg c4, if_neg c5, if_neg c6] at h0
    by_cases z : vl S x = 121
    · exact z
    · rw [if_neg z] at h0; exact absurd rfl h0
  have h4 : vn (vl S x) = 4 := by rw [c7]; rfl
  obtain ⟨d1, _⟩ := dg9 (sf_d (q := x + 1) hs (by omega) (by omega) (by omega))
  obtain ⟨d2, _⟩ := dg9 (sf_d (q := x + 2) hs (by omega) (by omega) (by omega))
  have v1 : s 61 0 = nI (10 * dg S (x + 1) + dg S (x + 2)) := by unfold nS at hN; rw [if_neg c3, if_neg c6, if_pos c7] at hN; exact hN
  rw [v1, show (2 : Int32).toNatClampNeg = 2 from rfl, h.yr]
  generalize hm : 10 * dg S (x + 1) + dg S (x + 2) = m
  rw [show f_X9_isIn (nI m) (1 : Int32) (60 : Int32) = if 1 ≤ m ∧ m ≤ 60 then 1 else 0 from pm_isIn (a := 1) (b := 60) (by omega) (by decide) (by decide), lb_ad1]
  by_cases c : 1 ≤ m ∧ m ≤ 60
  · rw [if_pos c, if_neg (show ¬ (1 : Int32) = 0 by decide)]
    by_cases cc : V 8 2 + m ≤ 999
    · obtain ⟨s1, a1, a2, a3⟩ := pm_yearsOn h hv c.2
      rw [if_pos (show nI (V 8 2 + m) ≤ 999 by rw [show (999 : Int32) = nI 999 from rfl, lb_le (by omega) (by omega)]; exact cc), if_pos (show (1 ≤ m ∧ m ≤ 60) ∧ V 8 2 + m ≤ 999 from ⟨c, cc⟩), a1, lb_bndS]
      exact mOb.y a3 a2
    · rw [if_neg (show ¬ nI (V 8 2 + m) ≤ 999 by rw [show (999 : Int32) = nI 999 from rfl, lb_le (by omega) (by omega)]; exact cc), if_neg (show ¬ ((1 ≤ m ∧ m ≤ 60) ∧ V 8 2 + m ≤ 999) from fun z => cc z.2)]; exact mOb.n
  · rw [if_neg c, if_pos rfl, if_neg (show ¬ ((1 ≤ m ∧ m ≤ 60) ∧ V 8 2 + m ≤ 999) from fun z => c z.1)]; exact mOb.n
