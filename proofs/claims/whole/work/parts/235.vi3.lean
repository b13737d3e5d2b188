/-! what a statement does -/
def ap (V : av_V) (np : Nat) (f : Nat → Nat) : Nat → av_V
  | 0 => V
  | i + 1 => av_st (ap V np f i) i np (f i)
def fj (S : av_V) (x : Nat) (j : Nat) : Nat := if j = 0 then (vk (vl S (x + 1))).getD 0 else dg S (x + 1 + j)
def ob (S : av_V) (x : Nat) (V : av_V) : Option av_V :=
  if vl S x = 102 then (if dg S (x + 1) < V 8 0 then some (av_st V 4 (dg S (x + 1)) (dg S (x + 2))) else none)
  else if vl S x = 103 then (if dg S (x + 1) < V 8 0 ∧ dg S (x + 2) < V 8 1 then some (av_st V 5 (dg S (x + 1)) (dg S (x + 2))) else none)
  else if vl S x = 106 then (if fj S x 2 < 6 ∧ fj S x 3 ≤ 6 ∧ fj S x 5 < V 8 1 ∧ V 8 0 < 8 then some (av_st (ap V (V 8 0) (fj S x) 6) 8 0 (V 8 0 + 1)) else none)
  else if vl S x = 107 then (if dg S (x + 1) < V 8 1 ∧ dg S (x + 2) < 6 then some (av_st V 6 (dg S (x + 1)) (dg S (x + 2))) else none)
  else if vl S x = 108 then (if dg S (x + 1) < V 8 0 ∧ dg S (x + 2) ≤ 6 then some (av_st V 3 (dg S (x + 1)) (dg S (x + 2))) else none)
  else if vl S x = 112 then (if V 8 1 < 5 ∧ dg S (x + 1) < 6 then some (av_st (av_st (av_st V 6 (V 8 1) (dg S (x + 1))) 7 (V 8 1) 20) 8 1 (V 8 1 + 1)) else none)
  else (if (1 ≤ 10 * dg S (x + 1) + dg S (x + 2) ∧ 10 * dg S (x + 1) + dg S (x + 2) ≤ 60) ∧ V 8 2 + (10 * dg S (x + 1) + dg S (x + 2)) ≤ 999 then some (av_ys V (10 * dg S (x + 1) + dg S (x + 2))) else none)
def obI (o : Option av_V) : Int32 := match o with
  | none => 0
  | some _ => 1
theorem frn_r {P : Nat → Bool} : ∀ {n b : Nat} {u : Unit}, frn P b n = .inr u → ∀ q, b ≤ q → q < b + n → P q = false
  | 0, b, u, _, q, h1, h2 => by omega
  | n + 1, b, u, h, q, h1, h2 => by
    rw [frn] at h
    split at h
    · cases h
    · rename_i c
      by_cases e : q = b
      · subst e; simpa using c
      · exact frn_r h q (by omega) (by omega)
theorem sf_r {S : av_V} {x : Nat} {u : Unit} (h : sf S x = .inr u) : ∀ q, x + 1 ≤ q → q < x + vn (vl S x) → vB S x q = false := by
  have h0 := sf_0 h
  unfold sf at h
  rw [if_neg h0] at h
  exact fun q h1 h2 => frn_r h q h1 (by omega)
theorem sf_d {S : av_V} {x q : Nat} {u : Unit} (h : sf S x = .inr u) (h1 : x + 1 ≤ q) (h2 : q + 1 < x + vn (vl S x)) (h3 : ¬ (q = x + 1 ∧ vl S x = 106)) : vd (vl S q) = true := by
  have h4 := sf_r h q h1 (by omega)
  rw [vB_d (by omega) h3] at h4
  simpa using h4
theorem sf_k {S : av_V} {x : Nat} {u : Unit} (h : sf S x = .inr u) (h6 : vl S x = 106) : ∃ k, vk (vl S (x + 1)) = some k ∧ k < 6 := by
  have h8 : vn (vl S x) = 8 := by rw [h6]; rfl
  have h4 := sf_r h (x + 1) (by omega) (by omega)
  rw [vB_k (by omega) ⟨rfl, h6⟩] at h4
  cases hk : vk (vl S (x + 1)) with
  | none => rw [hk] at h4; cases h4
  | some k => exact ⟨k, rfl, vk6 hk⟩
theorem dg9 {S : av_V} {q : Nat} (h : vd (vl S q) = true) : dg S q ≤ 9 ∧ nI (vl S q) - (48 : Int32) = nI (dg S q) := by
  have h2 := of_decide_eq_true h
  unfold dg
  exact ⟨by omega, lb_sb1 (b := 48) (by omega)⟩
theorem pv_hasPot {b : Nat} {σ : lb_Mem} {V : av_V} (h : av_C b σ V) (hw : av_W V) {d : Nat} (hd : d < 1000) : f_X7_hasPot σ b (nI d) = if d < V 8 0 then 1 else 0 := by
  have := hw.1
  unfold f_X7_hasPot
  rw [if_neg (nI_pos (by omega)), h.np]
  by_cases c : d < V 8 0
  · rw [if_pos c, if_neg (by rw [lb_le (by omega) (by omega)]; omega)]
  · rw [if_neg c, if_pos (by rw [lb_le (by omega) (by omega)]; omega)]
theorem pv_hasPerson {b : Nat} {σ : lb_Mem} {V : av_V} (h : av_C b σ V) (hw : av_W V) {d : Nat} (hd : d < 1000) : f_X7_hasPerson σ b (nI d) = if d < V 8 1 then 1 else 0 := by
  have := hw.2.1
  unfold f_X7_hasPerson
  rw [if_neg (nI_pos (by omega)), h.nn]
  by_cases c : d < V 8 1
  · rw [if_pos c, if_neg (by rw [lb_le (by omega) (by omega)]; omega)]
  · rw [if_neg c, if_pos (by rw [lb_le (by omega) (by omega)]; omega)]
theorem pv_sortD : ∀ d, d < 10 → f_X7_isSort (nI d) = if d < 6 then 1 else 0 := by decide +kernel
theorem pv_labelD : ∀ d, d < 10 → f_X7_isLabel (nI d) = if d ≤ 6 then 1 else 0 := by decide +kernel
theorem pv_digD : ∀ d, d < 10 → f_X7_isDigit (nI d) = 1 := by decide +kernel
theorem pv_kindD : ∀ d, d < 6 → f_X7_isKind (nI d) = 1 := by decide +kernel
theorem av_W.np1 {V : av_V} (h : av_W V) (h0 : V 8 0 < 8) (h5 : V 5 (V 8 0) < V 8 1) : av_W (av_st V 8 0 (V 8 0 + 1)) := by
  obtain ⟨a, b, c, d, e⟩ := h
  refine ⟨by rw [av_st_s]; omega, by rw [av_st_i _ (by decide)]; exact b, fun t ht => ?_, fun t ht => ?_, fun p hp => ?_⟩
  · rw [av_st_a _ (by decide), av_st_a _ (by decide), av_st_a _ (by decide), av_st_a _ (by decide), av_st_a _ (by decide), av_st_a _ (by decide)]; exact c t ht
  · rw [av_st_s] at ht
    rw [av_st_a _ (by decide), av_st_i _ (by decide)]
    by_cases e2 : t = V 8 0
    · rw [e2]; exact h5
    · exact d t (by omega)
  · rw [av_st_a _ (by decide), av_st_a _ (by decide)]; exact e p hp
theorem av_W.nn1 {V : av_V} (h : av_W V) (h0 : V 8 1 < 5) : av_W (av_st V 8 1 (V 8 1 + 1)) := by
  obtain ⟨a, b, c, d, e⟩ := h
  refine ⟨by rw [av_st_i _ (by decide)]; exact a, by rw [av_st_s]; omega, fun t ht => ?_, fun t ht => ?_, fun p hp => ?_⟩
  · rw [av_st_a _ (by decide), av_st_a _ (by decide), av_st_a _ (by decide), av_st_a _ (by decide), av_st_a _ (by decide), av_st_a _ (by decide)]; exact c t ht
  · rw [av_st_i _ (by decide)] at ht
    rw [av_st_a _ (by decide), av_st_s]
    have := d t ht
    omega
  · rw [av_st_a _ (by decide), av_st_a _ (by decide)]; exact e p hp
theorem ap_o (V : av_V) (np : Nat) (f : Nat → Nat) {a i : Nat} (h : 6 ≤ a) : ∀ n, n ≤ 6 → ap V np f n a i = V a i
  | 0, _ => rfl
  | n + 1, hn => by rw [ap, av_st_a _ (by omega)]; exact ap_o V np f h n (by omega)
theorem ap_W {V : av_V} (hv : av_W V) {np : Nat} {f : Nat → Nat} (h0 : f 0 < 6) (h1 : f 1 ≤ 9) (h2 : f 2 < 6) (h3 : f 3 ≤ 6) (h4 : f 4 ≤ 9) (h5 : f 5 < V 8 1) : ∀ n, n ≤ 6 → av_W (ap V np f n)
  | 0, _ => hv
  | n + 1, hn => by
    rw [ap]
    refine (ap_W hv h0 h1 h2 h3 h4 h5 n (by omega)).set ?_
    rw [ap_o V np f (by decide) n (by omega)]
    obtain rfl | rfl | rfl | rfl | rfl | rfl : n = 0 ∨ n = 1 ∨ n = 2 ∨ n = 3 ∨ n = 4 ∨ n = 5 := by omega
    all_goals omega
theorem fj9 {S : av_V} {x : Nat} {u : Unit} (h : sf S x = .inr u) (h6 : vl S x = 106) : fj S x 0 < 6 ∧ ∀ j, 1 ≤ j → j < 6 → fj S x j ≤ 9 := by
  have h8 : vn (vl S x) = 8 := by rw [h6]; rfl
  refine ⟨?_, fun j h1 h2 => ?_⟩
  · obtain ⟨k, hk, hk6⟩ := sf_k h h6
    unfold fj
    rw [if_pos rfl, hk]
    exact hk6
  · unfold fj
    rw [if_neg (by omega)]
    exact (dg9 (sf_d h (by omega) (by omega) (by omega))).1
theorem ob_W {S V V' : av_V} {x : Nat} {u : Unit} (h : sf S x = .inr u) (hv : av_W V) (hy : V 8 2 ≤ 999) (ho : ob S x V = some V') : av_W V' ∧ V' 8 2 ≤ 999 ∧ ∀ b i, 9 ≤ b → V' b i = V b i := by
  unfold ob at ho
  by_cases c1 : vl S x = 102
  · have h4 : vn (vl S x) = 4 := by rw [c1]; rfl
    have d2 := (dg9 (sf_d (q := x + 2) h (by omega) (by omega) (by omega))).1
    rw [if_pos c1] at ho
    split at ho
    · cases ho
      exact ⟨hv.set (by omega), by rw [av_st_a _ (by decide)]; exact hy, fun b i hb => av_st_a _ (by omega) _ _ _⟩
    · cases ho
  rw [if_neg c1] at ho
  by_cases c2 : vl S x = 103
  · rw [if_pos c2] at ho
    split at ho
    · rename_i c
      cases ho
      exact ⟨hv.set (by omega), by rw [av_st_a _ (by decide)]; exact hy, fun b i hb => av_st_a _ (by omega) _ _ _⟩
    · cases ho
  rw [if_neg c2] at ho
  by_cases c3 : vl S x = 106
  · obtain ⟨f0, f9⟩ := fj9 h c3
    rw [if_pos c3] at ho
    split at ho
    · rename_i c
      cases ho
      have hap := ap_W (np := V 8 0) hv f0 (f9 1 (by decide) (by decide)) c.1 c.2.1 (f9 4 (by decide) (by decide)) c.2.2.1 6 (by decide)
      have e0 := ap_o V (V 8 0) (fj S x) (a := 8) (i := 0) (by decide) 6 (by decide)
      have e1 := ap_o V (V 8 0) (fj S x) (a := 8) (i := 1) (by decide) 6 (by decide)
      refine ⟨?_, by rw [av_st_i _ (by decide), ap_o _ _ _ (by decide) 6 (by decide)]; exact hy, fun b i hb => by rw [av_st_a _ (by omega), ap_o _ _ _ (by omega) 6 (by decide)]⟩
      have := hap.np1 (by rw [e0]; exact c.2.2.2) (by rw [e0, e1, ap, av_st_s]; exact c.2.2.1)
      rw [e0] at this
      exact this
    · cases ho
  rw [if_neg c3] at ho
  by_cases c4 : vl S x = 107
  · rw [if_pos c4] at ho
    split at ho
    · rename_i c
      cases ho
      exact ⟨hv.set (by omega), by rw [av_st_a _ (by decide)]; exact hy, fun b i hb => av_st_a _ (by omega) _ _ _⟩
    · cases ho
  rw [if_neg c4] at ho
  by_cases c5 : vl S x = 108
  · rw [if_pos c5] at ho
    split at ho
    · rename_i c
      cases ho
      exact ⟨hv.set (by omega), by rw [av_st_a _ (by decide)]; exact hy, fun b i hb => av_st_a _ (by omega) _ _ _⟩
    · cases ho
  rw [if_neg c5] at ho
  by_cases c6 : vl S x = 112
  · rw [if_pos c6] at ho
    split at ho
    · rename_i c
      cases ho
      have h1 := (hv.set (a := 6) (i := V 8 1) (x := dg S (x + 1)) (by omega)).set (a := 7) (i := V 8 1) (x := 20) (by omega)
      have h2 := h1.nn1 (by rw [av_st_a _ (by decide), av_st_a _ (by decide)]; exact c.1)
      rw [av_st_a _ (show 8 ≠ 7 by decide), av_st_a _ (show 8 ≠ 6 by decide)] at h2
      exact ⟨h2, by rw [av_st_i _ (by decide), av_st_a _ (by decide), av_st_a _ (by decide)]; exact hy, fun b i hb => by rw [av_st_a _ (by omega), av_st_a _ (by omega), av_st_a _ (by omega)]⟩
    · cases ho
  rw [if_neg c6] at ho
  split at ho
  · rename_i c
    cases ho
    exact ⟨hv.ys _, by rw [av_ys8, if_pos rfl]; exact c.2, fun b i hb => av_ys_st _ _ _ (by omega) (by omega) (by omega) _⟩
  · cases ho
/-! the class obeys -/
def cOb (σ : lb_Mem) (o : Option (Int32 × lb_Mem)) (r : Option av_V) : Prop := ∃ σ', o = some (obI r, σ') ∧ av_fr 17 σ σ' ∧ ∀ V', r = some V' → av_C 17 σ' V'
theorem cOb.n {σ : lb_Mem} : cOb σ (some ((0 : Int32), σ)) none := ⟨σ, rfl, av_fr.rf _ _, fun _ h => by cases h⟩
theorem cOb.y {σ σ' : lb_Mem} {V' : av_V} (f : av_fr 17 σ σ') (h : av_C 17 σ' V') : cOb σ (some ((1 : Int32), σ')) (some V') := ⟨σ', rfl, f, fun _ e => by cases e; exact h⟩
theorem obI_B (r : Option av_V) : lb_isB (obI r) = true := by cases r <;> rfl
theorem cOb.b {σ : lb_Mem} {o : Option (Int32 × lb_Mem)} {r : Option av_V} (h : cOb σ o r) : cOb σ (o.bind (fun q => lb_chk (lb_isB q.1) (some (q.1, q.2)))) r := by
  obtain ⟨σ', e, f, g⟩ := h
  refine ⟨σ', ?_, f, g⟩
  rw [e, lb_bndS]
  dsimp only
  rw [obI_B, lb_chkT]
theorem pc_obey {σ : lb_Mem} {S V : av_V} (hc : rs_C σ S) (hw : rs_W S) (h : av_C 17 σ V) (hv : av_W V) (hy : V 8 2 ≤ 999) {x : Nat} (hx : x < 800) {u : Unit} (hs : sf S x = .inr u) : cOb σ (f_X4_isObeyed 17 (nI x) σ) (ob S x V) := by
  have hn := hv.1
  have hn1 := hv.2.1
  have hl := vl_le hw x
  unfold f_X4_isObeyed ob
  rw [lb_k1, lb_k2, lb_k3, lb_k4, lb_k5, lb_k6, lb_ad1, lb_ad1, lb_ad1, lb_ad1, lb_ad1, lb_ad1, pc_digitAt hc hw (x := x + 1) (by omega), lb_bndS, pc_digitAt hc hw (x := x + 2) (by omega), lb_bndS, pc_letterAt hc hw (by omega), lb_bndS]
  by_cases c1 : vl S x = 102
  · have h4 : vn (vl S x) = 4 := by rw [c1]; rfl
    obtain ⟨d1, e1⟩ := dg9 (sf_d (q := x + 1) hs (by omega) (by omega) (by omega))
    obtain ⟨d2, e2⟩ := dg9 (sf_d (q := x + 2) hs (by omega) (by omega) (by omega))
    rw [if_pos (show nI (vl S x) = 102 by rw [c1]; rfl), if_pos c1, e1, e2]
    apply cOb.b
    unfold f_X7_setFull
    rw [pv_hasPot h hv (by omega), pv_digD _ (by omega)]
    by_cases c : dg S (x + 1) < V 8 0
    · rw [if_pos c, if_pos c, if_neg (by decide), if_neg (by decide), lb_ixN (show dg S (x + 1) < 8 by omega) (by decide), lb_chkT, lb_letS, lb_cl (by omega)]
      exact cOb.y (av_fr.sto (by omega) (by omega)) (h.set (a := 4) _ (by decide) (show dg S (x + 1) < 8 by omega))
    · rw [if_neg c, if_neg c, if_pos rfl]; exact cOb.n
  rw [if_neg (show ¬ nI (vl S x) = 102 by rw [show (102 : Int32) = nI 102 from rfl, lb_eq (by omega) (by omega)]; exact c1), if_neg c1]
  by_cases c2 : vl S x = 103
  · have h4 : vn (vl S x) = 4 := by rw [c2]; rfl
    obtain ⟨d1, e1⟩ := dg9 (sf_d (q := x + 1) hs (by omega) (by omega) (by omega))
    obtain ⟨d2, e2⟩ := dg9 (sf_d (q := x + 2) hs (by omega) (by omega) (by omega))
    rw [if_pos (show nI (vl S x) = 103 by rw [c2]; rfl), if_pos c2, e1, e2]
    apply cOb.b
    unfold f_X7_setOwner
    rw [pv_hasPot h hv (by omega), pv_hasPerson h hv (by omega)]
    by_cases c : dg S (x + 1) < V 8 0
    · rw [if_pos c, if_neg (by decide)]
      by_cases cc : dg S (x + 2) < V 8 1
      · rw [if_pos cc, if_neg (by decide), if_pos (show dg S (x + 1) < V 8 0 ∧ dg S (x + 2) < V 8 1 from ⟨c, cc⟩), lb_ixN (show dg S (x + 1) < 8 by omega) (by decide), lb_chkT, lb_letS, lb_cl (by omega)]
        exact cOb.y (av_fr.sto (by omega) (by omega)) (h.set (a := 5) _ (by decide) (show dg S (x + 1) < 8 by omega))
      · rw [if_neg cc, if_pos rfl, if_neg (show ¬ (dg S (x + 1) < V 8 0 ∧ dg S (x + 2) < V 8 1) from fun z => cc z.2)]; exact cOb.n
    · rw [if_neg c, if_pos rfl, if_neg (show ¬ (dg S (x + 1) < V 8 0 ∧ dg S (x + 2) < V 8 1) from fun z => c z.1)]; exact cOb.n
  rw [if_neg (show ¬ nI (vl S x) = 103 by rw [show (103 : Int32) = nI 103 from rfl, lb_eq (by omega) (by omega)]; exact c2), if_neg c2]
  by_cases c3 : vl S x = 106
  · have h8 : vn (vl S x) = 8 := by rw [c3]; rfl
    obtain ⟨k, hk, hk6⟩ := sf_k hs c3
    obtain ⟨f0, f9⟩ := fj9 hs c3
    have g0 : fj S x 0 = k := by unfold fj; rw [if_pos rfl, hk]; rfl
    have gj : ∀ j, 1 ≤ j → fj S x j = dg S (x + 1 + j) := fun j hj => by unfold fj; rw [if_neg (by omega)]
    obtain ⟨d2, e2⟩ := dg9 (sf_d (q := x + 2) hs (by omega) (by omega) (by omega))
    obtain ⟨d3, e3⟩ := dg9 (sf_d (q := x + 3) hs (by omega) (by omega) (by omega))
    obtain ⟨d4, e4⟩ := dg9 (sf_d (q := x + 4) hs (by omega) (by omega) (by omega))
    obtain ⟨d5, e5⟩ := dg9 (sf_d (q := x + 5) hs (by omega) (by omega) (by omega))
    obtain ⟨d6, e6⟩ := dg9 (sf_d (q := x + 6) hs (by omega) (by omega) (by omega))
    have q1 : fj S x 1 = dg S (x + 2) := gj 1 (by decide)
    have q2 : fj S x 2 = dg S (x + 3) := gj 2 (by decide)
    have q3 : fj S x 3 = dg S (x + 4) := gj 3 (by decide)
    have q4 : fj S x 4 = dg S (x + 5) := gj 4 (by decide)
    have q5 : fj S x 5 = dg S (x + 6) := gj 5 (by decide)
    rw [if_pos (show nI (vl S x) = 106 by rw [c3]; rfl), if_pos c3, pc_kindAt hc hw (by omega), lb_bndS, pc_digitAt hc hw (x := x + 3) (by omega), lb_bndS, pc_digitAt hc hw (x := x + 4) (by omega), lb_bndS, pc_digitAt hc hw (x := x + 5) (by omega), lb_bndS, pc_digitAt hc hw (x := x + 6) (by omega), lb_bndS, e2, e3, e4, e5, e6, hk]
    apply cOb.b
    show cOb σ (f_X7_addPot 17 (nI k) (nI (dg S (x + 2))) (nI (dg S (x + 3))) (nI (dg S (x + 4))) (nI (dg S (x + 5))) (nI (dg S (x + 6))) σ) _
    rw [← g0, ← q1, ← q2, ← q3, ← q4, ← q5]
    rw [← g0] at hk6
    rw [← q1] at d2
    rw [← q2] at d3
    rw [← q3] at d4
    rw [← q4] at d5
    rw [← q5] at d6
    unfold f_X7_addPot f_X7_addPot_50
    rw [pv_kindD _ hk6, pv_digD _ (by omega), pv_digD _ (by omega), pv_sortD _ (by omega), pv_labelD _ (by omega), pv_hasPerson h hv (by omega), if_neg (show ¬ (1 : Int32) = 0 by decide), if_neg (show ¬ (1 : Int32) = 0 by decide)]
    have bad : f_X7_addPot_51 17 (nI (fj S x 0)) (nI (fj S x 1)) (nI (fj S x 2)) (nI (fj S x 3)) (nI (fj S x 4)) (nI (fj S x 5)) σ (0 : Int32) = some ((0 : Int32), σ) := by
      unfold f_X7_addPot_51
      rw [if_pos (show (0 : Int32) = 0 from rfl)]
      split <;> rfl
    rw [bad]
    by_cases k2 : fj S x 2 < 6
    · rw [if_pos k2, if_neg (show ¬ (1 : Int32) = 0 by decide)]
      by_cases k3 : fj S x 3 ≤ 6
      · rw [if_pos k3, if_neg (show ¬ (1 : Int32) = 0 by decide), if_neg (show ¬ (1 : Int32) = 0 by decide)]
        by_cases k5 : fj S x 5 < V 8 1
        · rw [if_pos k5, if_neg (show ¬ (1 : Int32) = 0 by decide)]
          unfold f_X7_addPot_51
          rw [h.np]
          by_cases k8 : V 8 0 < 8
          · rw [if_neg (show ¬ (8 : Int32) ≤ nI (V 8 0) by rw [lb_k8, lb_le (by omega) (by omega)]; omega), if_neg (show ¬ (1 : Int32) = 0 by decide), if_pos (show fj S x 2 < 6 ∧ fj S x 3 ≤ 6 ∧ fj S x 5 < V 8 1 ∧ V 8 0 < 8 from ⟨k2, k3, k5, k8⟩)]
            have s0 := h.set (a := 0) (t := V 8 0) (fj S x 0) (by decide) k8
            have s1 := s0.set (a := 1) (t := V 8 0) (fj S x 1) (by decide) k8
            have s2 := s1.set (a := 2) (t := V 8 0) (fj S x 2) (by decide) k8
            have s3 := s2.set (a := 3) (t := V 8 0) (fj S x 3) (by decide) k8
            have s4 := s3.set (a := 4) (t := V 8 0) (fj S x 4) (by decide) k8
            have s5 := s4.set (a := 5) (t := V 8 0) (fj S x 5) (by decide) k8
            have s6 := s5.set8 (j := 0) (V 8 0 + 1) (by decide)
            have ix := lb_ixN k8 (n := 8) (by decide)
            rw [ix, lb_chkT, lb_letS, lb_cl (by omega), lb_sto_o (show 17 ≠ 17 + 8 by decide), h.np, ix, lb_chkT, lb_letS, lb_cl (by omega), lb_sto_o (show 17 ≠ 17 + 9 by decide), lb_sto_o (show 17 ≠ 17 + 8 by decide), h.np, ix, lb_chkT, lb_letS, lb_cl (by omega), lb_sto_o (show 17 ≠ 17 + 10 by decide), lb_sto_o (show 17 ≠ 17 + 9 by decide), lb_sto_o (show 17 ≠ 17 + 8 by decide), h.np, ix, lb_chkT, lb_letS, lb_cl (by omega), lb_sto_o (show 17 ≠ 17 + 11 by decide), lb_sto_o (show 17 ≠ 17 + 10 by decide), lb_sto_o (show 17 ≠ 17 + 9 by decide), lb_sto_o (show 17 ≠ 17 + 8 by decide), h.np, ix, lb_chkT, lb_letS, lb_cl (by omega), lb_sto_o (show 17 ≠ 17 + 12 by decide), lb_sto_o (show 17 ≠ 17 + 11 by decide), lb_sto_o (show 17 ≠ 17 + 10 by decide), lb_sto_o (show 17 ≠ 17 + 9 by decide), lb_sto_o (show 17 ≠ 17 + 8 by decide), h.np, ix, lb_chkT, lb_letS, lb_cl (by omega), lb_sto_o (show 17 ≠ 17 + 13 by decide), lb_sto_o (show 17 ≠ 17 + 12 by decide), lb_sto_o (show 17 ≠ 17 + 11 by decide), lb_sto_o (show 17 ≠ 17 + 10 by decide), lb_sto_o (show 17 ≠ 17 + 9 by decide), lb_sto_o (show 17 ≠ 17 + 8 by decide), h.np, lb_letS, show nI (V 8 0) + 1 = nI (V 8 0 + 1) from nI_1 _]
            refine cOb.y ?_ s6
            exact (((((((av_fr.sto (by omega) (by omega)).tr (av_fr.sto (by omega) (by omega))).tr (av_fr.sto (by omega) (by omega))).tr (av_fr.sto (by omega) (by omega))).tr (av_fr.sto (by omega) (by omega))).tr (av_fr.sto (by omega) (by omega))).tr (av_fr.sto (by omega) (by omega)))
          · rw [if_pos (show (8 : Int32) ≤ nI (V 8 0) by rw [lb_k8, lb_le (by omega) (by omega)]; omega), if_neg (show ¬ (fj S x 2 < 6 ∧ fj S x 3 ≤ 6 ∧ fj S x 5 < V 8 1 ∧ V 8 0 < 8) from fun z => k8 z.2.2.2)]; exact cOb.n
        · rw [if_neg k5, if_pos rfl, if_neg (show ¬ (fj S x 2 < 6 ∧ fj S x 3 ≤ 6 ∧ fj S x 5 < V 8 1 ∧ V 8 0 < 8) from fun z => k5 z.2.2.1)]; exact cOb.n
      · rw [if_neg k3, if_pos rfl, if_neg (show ¬ (fj S x 2 < 6 ∧ fj S x 3 ≤ 6 ∧ fj S x 5 < V 8 1 ∧ V 8 0 < 8) from fun z => k3 z.2.1)]; exact cOb.n
    · rw [if_neg k2, if_pos rfl, if_neg (show ¬ (fj S x 2 < 6 ∧ fj S x 3 ≤ 6 ∧ fj S x 5 < V 8 1 ∧ V 8 0 < 8) from fun z => k2 z.1)]; exact cOb.n
  rw [if_neg (show ¬ nI (vl S x) = 106 by rw [show (106 : Int32) = nI 106 from rfl, lb_eq (by omega) (by omega)]; exact c3), if_neg c3]
  by_cases c4 : vl S x = 107
  · have h4 : vn (vl S x) = 4 := by rw [c4]; rfl
    obtain ⟨d1, e1⟩ := dg9 (sf_d (q := x + 1) hs (by omega) (by omega) (by omega))
    obtain ⟨d2, e2⟩ := dg9 (sf_d (q := x + 2) hs (by omega) (by omega) (by omega))
    rw [if_pos (show nI (vl S x) = 107 by rw [c4]; rfl), if_pos c4, e1, e2]
    apply cOb.b
    unfold f_X7_setLikes
    rw [pv_hasPerson h hv (by omega), pv_sortD _ (by omega)]
    by_cases c : dg S (x + 1) < V 8 1
    · rw [if_pos c, if_neg (by decide)]
      by_cases cc : dg S (x + 2) < 6
      · rw [if_pos cc, if_neg (by decide), if_pos (show dg S (x + 1) < V 8 1 ∧ dg S (x + 2) < 6 from ⟨c, cc⟩), lb_ixN (show dg S (x + 1) < 5 by omega) (by decide), lb_chkT, lb_letS, lb_cl (by omega)]
        exact cOb.y (av_fr.sto (by omega) (by omega)) (h.set (a := 6) _ (by decide) (show dg S (x + 1) < 5 by omega))
      · rw [if_neg cc, if_pos rfl, if_neg (show ¬ (dg S (x + 1) < V 8 1 ∧ dg S (x + 2) < 6) from fun z => cc z.2)]; exact cOb.n
    · rw [if_neg c, if_pos rfl, if_neg (show ¬ (dg S (x + 1) < V 8 1 ∧ dg S (x + 2) < 6) from fun z => c z.1)]; exact cOb.n
  rw [if_neg (show ¬ nI (vl S x) = 107 by rw [show (107 : Int32) = nI 107 from rfl, lb_eq (by omega) (by omega)]; exact c4), if_neg c4]
  by_cases c5 : vl S x = 108
  · have h4 : vn (vl S x) = 4 := by rw [c5]; rfl
    obtain ⟨d1, e1⟩ := dg9 (sf_d (q := x + 1) hs (by omega) (by omega) (by omega))
    obtain ⟨d2, e2⟩ := dg9 (sf_d (q := x + 2) hs (by omega) (by omega) (by omega))
    rw [if_pos (show nI (vl S x) = 108 by rw [c5]; rfl), if_pos c5, e1, e2]
    apply cOb.b
    unfold f_X7_setLabel
    rw [pv_hasPot h hv (by omega), pv_labelD _ (by omega)]
    by_cases c : dg S (x + 1) < V 8 0
    · rw [if_pos c, if_neg (by decide)]
      by_cases cc : dg S (x + 2) ≤ 6
      · rw [if_pos cc, if_neg (by decide), if_pos (show dg S (x + 1) < V 8 0 ∧ dg S (x + 2) ≤ 6 from ⟨c, cc⟩), lb_ixN (show dg S (x + 1) < 8 by omega) (by decide), lb_chkT, lb_letS, lb_cl (by omega)]
        exact cOb.y (av_fr.sto (by omega) (by omega)) (h.set (a := 3) _ (by decide) (show dg S (x + 1) < 8 by omega))
      · rw [if_neg cc, if_pos rfl, if_neg (show ¬ (dg S (x + 1) < V 8 0 ∧ dg S (x + 2) ≤ 6) from fun z => cc z.2)]; exact cOb.n
    · rw [if_neg c, if_pos rfl, if_neg (show ¬ (dg S (x + 1) < V 8 0 ∧ dg S (x + 2) ≤ 6) from fun z => c z.1)]; exact cOb.n
  rw [if_neg (show ¬ nI (vl S x) = 108 by rw [show (108 : Int32) = nI 108 from rfl, lb_eq (by omega) (by omega)]; exact c5), if_neg c5]
  by_cases c6 : vl S x = 112
  · have h4 : vn (vl S x) = 3 := by rw [c6]; rfl
    obtain ⟨d1, e1⟩ := dg9 (sf_d (q := x + 1) hs (by omega) (by omega) (by omega))
    rw [if_pos (show nI (vl S x) = 112 by rw [c6]; rfl), if_pos c6, e1]
    apply cOb.b
    unfold f_X7_addPerson
    rw [h.nn, pv_sortD _ (by omega)]
    by_cases c : V 8 1 < 5
    · rw [if_neg (show ¬ (5 : Int32) ≤ nI (V 8 1) by rw [lb_k5, lb_le (by omega) (by omega)]; omega)]
      by_cases cc : dg S (x + 1) < 6
      · have s0 := h.set (a := 6) (t := V 8 1) (dg S (x + 1)) (by decide) c
        have s1 := s0.set (a := 7) (t := V 8 1) 20 (by decide) c
        have s2 := s1.set8 (j := 1) (V 8 1 + 1) (by decide)
        have ix := lb_ixN c (n := 5) (by decide)
        rw [if_pos cc, if_neg (by decide), if_pos (show V 8 1 < 5 ∧ dg S (x + 1) < 6 from ⟨c, cc⟩), ix, lb_chkT, lb_letS, lb_cl (by omega), lb_sto_o (show 17 ≠ 17 + 14 by decide), h.nn, ix, lb_chkT, lb_letS, lb_cl (by omega), lb_sto_o (show 17 ≠ 17 + 15 by decide), lb_sto_o (show 17 ≠ 17 + 14 by decide), h.nn, lb_letS, show nI (V 8 1) + 1 = nI (V 8 1 + 1) from nI_1 _]
        exact cOb.y (((av_fr.sto (by omega) (by omega)).tr (av_fr.sto (by omega) (by omega))).tr (av_fr.sto (by omega) (by omega))) s2
      · rw [if_neg cc, if_pos rfl, if_neg (show ¬ (V 8 1 < 5 ∧ dg S (x + 1) < 6) from fun z => cc z.2)]; exact cOb.n
    · rw [if_pos (show (5 : Int32) ≤ nI (V 8 1) by rw [lb_k5, lb_le (by omega) (by omega)]; omega), if_neg (show ¬ (V 8 1 < 5 ∧ dg S (x + 1) < 6) from fun z => c z.1)]; exact cOb.n
  rw [if_neg (show ¬ nI (vl S x) = 112 by rw [show (112 : Int32) = nI 112 from rfl, lb_eq (by omega) (by omega)]; exact c6), if_neg c6]
  have c7 : vl S x = 121 := by
    have h0 := sf_0 hs
    unfold vn at h0
    rw [if_neg c1, if_neg c2, if_neg c3, if_neg c4, if_neg c5, if_neg c6] at h0
    by_cases z : vl S x = 121
    · exact z
    · rw [if_neg z] at h0; exact absurd rfl h0
  have h4 : vn (vl S x) = 4 := by rw [c7]; rfl
  obtain ⟨d1, e1⟩ := dg9 (sf_d (q := x + 1) hs (by omega) (by omega) (by omega))
  obtain ⟨d2, e2⟩ := dg9 (sf_d (q := x + 2) hs (by omega) (by omega) (by omega))
  rw [if_pos (show nI (vl S x) = 121 by rw [c7]; rfl), e1, e2, lb_k10, lb_ml1, lb_ad1, lb_letS, lb_letS]
  generalize hm : 10 * dg S (x + 1) + dg S (x + 2) = m
  unfold f_X7_canGoOn
  rw [h.yr]
  by_cases c : (1 ≤ m ∧ m ≤ 60) ∧ V 8 2 + m ≤ 999
  · rw [if_pos c]
    obtain ⟨s1, a1, a2, a3⟩ := pv_pass h hv c.1.2
    rw [if_neg (show ¬ nI m < 1 by rw [lb_k1, lb_lt (by omega) (by omega)]; omega), if_neg (show ¬ (60 : Int32) < nI m by rw [lb_k60, lb_lt (by omega) (by omega)]; omega), if_neg (show ¬ (999 : Int32) - nI m < nI (V 8 2) by rw [lb_k999, lb_sb1 (by omega), lb_lt (by omega) (by omega)]; omega), if_neg (show ¬ (1 : Int32) = 0 by decide), f_X4_isObeyed_226, a1, lb_bndS, show lb_isB (1 : Int32) = true by decide, lb_chkT]
    exact cOb.y a3 a2
  · rw [if_neg c]
    obtain ⟨s1, a1, a2, a3⟩ := pv_pass h hv (show 0 ≤ 60 by decide)
    have e0 : (if nI m < 1 then (0 : Int32) else if (60 : Int32) < nI m then (0 : Int32) else if (999 : Int32) - nI m < nI (V 8 2) then (0 : Int32) else 1) = 0 := by
      by_cases k1 : m < 1
      · rw [if_pos (show nI m < 1 by rw [lb_k1, lb_lt (by omega) (by omega)]; exact k1)]
      rw [if_neg (show ¬ nI m < 1 by rw [lb_k1, lb_lt (by omega) (by omega)]; exact k1)]
      by_cases k2 : 60 < m
      · rw [if_pos (show (60 : Int32) < nI m by rw [lb_k60, lb_lt (by omega) (by omega)]; exact k2)]
      rw [if_neg (show ¬ (60 : Int32) < nI m by rw [lb_k60, lb_lt (by omega) (by omega)]; exact k2), if_pos (show (999 : Int32) - nI m < nI (V 8 2) by rw [lb_k999, lb_sb1 (by omega), lb_lt (by omega) (by omega)]; omega)]
    rw [e0, if_pos rfl, f_X4_isObeyed_226, lb_k0, a1, lb_bndS, show lb_isB (nI 0) = true by decide, lb_chkT]
    exact ⟨s1, rfl, a3, fun _ z => by cases z⟩
