theorem pc_better {σ : lb_Mem} {S : av_V} (hc : rs_C σ S) (hv : av_W S) {t m : Nat} (h8 : t < 8) (hm : m ≤ 60) : ∃ σ1, f_X8_isBetterWithout (nI t) (nI m) σ = some ((if av_ow (av_st S 4 t 0) (S 5 t) m ≤ av_ow S (S 5 t) m then 0 else 1 : Int32), σ1) ∧ av_fr 17 σ σ1 := by
  have h5 := (hv.2.2.1 t h8).2.2.2.2.2
  obtain ⟨s1, e1, f1⟩ := pc_without hc hv h8 hm
  obtain ⟨s2, e2, f2⟩ := pc_graceBehind (hc.fr0 f1) hv h5 hm
  refine ⟨s2, ?_, f1.tr f2⟩
  have b1 := (((hv.set (a := 4) (i := t) (x := 0) (by omega)).p (S 5 t) m).2.2.2.2 (S 5 t) h5).2
  have b2 := ((hv.p (S 5 t) m).2.2.2.2 (S 5 t) h5).2
  unfold f_X8_isBetterWithout
  rw [e1, lb_bndS]
  dsimp only
  rw [lb_ixN h8 (by decide), lb_chkT, lb_cl (by omega), show s1 14 t = nI (S 5 t) from (hc.fr0 f1).1.r5 t h8, e2, lb_bndS]
  unfold av_ow
  by_cases c : av_p (av_st S 4 t 0) (S 5 t) m 7 (S 5 t) ≤ av_p S (S 5 t) m 7 (S 5 t)
  · rw [if_pos c, if_pos (by rw [lb_le (by omega) (by omega)]; exact c)]
  · rw [if_neg c, if_neg (by rw [lb_le (by omega) (by omega)]; exact c)]
theorem av_al.four {p : Nat} {V : av_V} {u x : Nat} (h : V 5 u ≠ p) : av_al p (av_st V 4 u x) V := by
  refine ⟨fun a i h1 _ _ => av_st_a _ h1 _ _ _, av_st_a _ (by decide) _ _ _, av_st_a _ (by decide) _ _ _, av_st_a _ (by decide) _ _ _, fun t ht => ?_⟩
  rw [av_st_a _ (by decide)] at ht
  by_cases e : t = u
  · subst e; exact absurd ht h
  · exact av_st_i _ e _ _ _
theorem av_al.ow {p : Nat} {V U : av_V} (h : av_al p V U) (m : Nat) : av_ow V p m = av_ow U p m := (h.pp m).2.2.2.1
/-- emptied, or not -/
def tw (V : av_V) (t a : Nat) : av_V := if a = 1 then av_st V 4 t 0 else V
theorem tw_W {V : av_V} (h : av_W V) (t a : Nat) : av_W (tw V t a) := by
  unfold tw
  split
  · exact h.set (by omega)
  · exact h
theorem tw_o {V : av_V} {t a b i : Nat} (h : b ≠ 4) : tw V t a b i = V b i := by
  unfold tw
  split
  · exact av_st_a _ h _ _ _
  · rfl
theorem tw_al {p : Nat} {V : av_V} {t a : Nat} (h : V 5 t ≠ p) : av_al p (tw V t a) V := by
  unfold tw
  split
  · exact av_al.four h
  · exact av_al.rf p V
theorem tw_al2 {p : Nat} {V : av_V} {t a u b : Nat} (h : V 5 t ≠ p) : av_al p (tw (tw V t a) u b) (tw V u b) := by
  unfold tw
  by_cases c1 : a = 1
  · by_cases c2 : b = 1
    · rw [if_pos c1, if_pos c2, if_pos c2]
      refine ⟨fun a i h1 _ _ => by rw [av_st_a _ h1, av_st_a _ h1, av_st_a _ h1], by rw [av_st_a _ (by decide), av_st_a _ (by decide), av_st_a _ (by decide)], by rw [av_st_a _ (by decide), av_st_a _ (by decide), av_st_a _ (by decide)], by rw [av_st_a _ (by decide), av_st_a _ (by decide), av_st_a _ (by decide)], fun k hk => ?_⟩
      rw [av_st_a _ (by decide), av_st_a _ (by decide)] at hk
      have hne : k ≠ t := fun z => h (by rw [← z]; exact hk)
      by_cases e : k = u
      · subst e; rw [av_st_s, av_st_s]
      · rw [av_st_i _ e, av_st_i _ e, av_st_i _ hne]
    · rw [if_pos c1, if_neg c2, if_neg c2]; exact av_al.four h
  · rw [if_neg c1]; exact av_al.rf p _
theorem pn_lead {σ : lb_Mem} {S : av_V} (hm : rs_M σ S) (hv : av_W S) {p q t u a b m : Nat} (hp : p < S 8 1) (hq : q < S 8 1) (ht : t < 8) (hu : u < 8) (ha : a < 2) (hb : b < 2) (hm60 : m ≤ 60) : ∃ σ1, f_X9_leadBy (nI p) (nI q) (nI t) (nI a) (nI u) (nI b) (nI m) σ = some (nI (av_ow (tw (tw S t a) u b) p m) - nI (av_ow (tw (tw S t a) u b) q m), σ1) ∧ av_fk 55 σ σ1 := by
  have hn1 := hv.2.1
  obtain ⟨s1, e1, h1, f1⟩ := pn_copy hm
  have tail : ∀ s, av_M 55 s (tw (tw S t a) u b) → av_fk 55 σ s → ∃ σ1, f_X9_leadBy_46 (nI p) (nI q) (nI m) s = some (nI (av_ow (tw (tw S t a) u b) p m) - nI (av_ow (tw (tw S t a) u b) q m), σ1) ∧ av_fk 55 σ σ1 := by
    intro s hs fs
    obtain ⟨s2, e2, h2, f2⟩ := pm_yearsOn hs (tw_W (tw_W hv t a) u b) hm60
    refine ⟨s2, ?_, fs.tr f2⟩
    unfold f_X9_leadBy_46
    rw [e2, lb_bndS, show f_X9_ofP (nI p) (1 : Int32) = nI (51 + 2 * p + 1) from pm_oP p 1, show f_X9_ofP (nI q) (1 : Int32) = nI (51 + 2 * q + 1) from pm_oP q 1, lb_ixN (show 51 + 2 * p + 1 < 61 by omega) (by decide), lb_ixN (show 51 + 2 * q + 1 < 61 by omega) (by decide), lb_chkT, lb_chkT, lb_cl (by omega), lb_cl (by omega), h2.p1 p (by omega), h2.p1 q (by omega), (av_ys_al (V := tw (tw S t a) u b) (p := p) (by rw [tw_o (by decide), tw_o (by decide)]; exact hp) m).2.2.2.1, (av_ys_al (V := tw (tw S t a) u b) (p := q) (by rw [tw_o (by decide), tw_o (by decide)]; exact hq) m).2.2.2.1]
    rfl
  have mid : ∀ s, av_M 55 s (tw S t a) → av_fk 55 σ s → ∃ σ1, f_X9_leadBy_28 (nI p) (nI q) (nI u) (nI b) (nI m) s = some (nI (av_ow (tw (tw S t a) u b) p m) - nI (av_ow (tw (tw S t a) u b) q m), σ1) ∧ av_fk 55 σ σ1 := by
    intro s hs fs
    unfold f_X9_leadBy_28
    by_cases c : b = 1
    · rw [if_pos (show nI b = (1 : Int32) by rw [c]; rfl), show f_X9_ofT (nI u) (4 : Int32) = nI (3 + 6 * u + 4) from pm_oT u 4, lb_ixN (show 3 + 6 * u + 4 < 61 by omega) (by decide), lb_chkT, lb_letS, lb_cl (by omega), lb_k0]
      exact tail _ (by unfold tw; rw [if_pos c]; exact hs.setT (a := 4) (t := u) 0 (by decide) hu) (fs.tr av_fk.sto)
    · rw [if_neg (show ¬ nI b = (1 : Int32) by rw [lb_k1, lb_eq (by omega) (by omega)]; exact c)]
      exact tail _ (by rw [show tw (tw S t a) u b = tw S t a from if_neg c]; exact hs) fs
  unfold f_X9_leadBy
  rw [e1, lb_bndS]
  by_cases c : a = 1
  · rw [if_pos (show nI a = (1 : Int32) by rw [c]; rfl), show f_X9_ofT (nI t) (4 : Int32) = nI (3 + 6 * t + 4) from pm_oT t 4, lb_ixN (show 3 + 6 * t + 4 < 61 by omega) (by decide), lb_chkT, lb_letS, lb_cl (by omega), lb_k0]
    exact mid _ (by unfold tw; rw [if_pos c]; exact h1.setT (a := 4) (t := t) 0 (by decide) ht) (f1.tr av_fk.sto)
  · rw [if_neg (show ¬ nI a = (1 : Int32) by rw [lb_k1, lb_eq (by omega) (by omega)]; exact c)]
    exact mid _ (by rw [show tw S t a = S from if_neg c]; exact h1) f1
theorem lb_sbI (x y : Nat) : nI x - nI y = Int32.ofInt ((x : Int) - y) := by
  rw [show nI x = Int32.ofInt (x : Int) from rfl, show nI y = Int32.ofInt (y : Int) from rfl, Int32.ofInt_sub]
theorem lb_sub_lt {x y z : Nat} (hx : x ≤ 99) (hy : y ≤ 99) (hz : z ≤ 99) : (nI x - nI z < nI y - nI z) ↔ x < y := by
  rw [lb_sbI, lb_sbI, gI_lt (by omega) (by omega) (by omega) (by omega)]
  omega
def tw_P (S : av_V) (t m a : Nat) : Nat := av_ow (tw S t a) (S 5 t) m
theorem tw_P99 {S : av_V} (hv : av_W S) {t m : Nat} (a : Nat) (h8 : t < 8) : tw_P S t m a ≤ 99 := (((tw_W hv t a).p (S 5 t) m).2.2.2.2 (S 5 t) (hv.2.2.1 t h8).2.2.2.2.2).2
theorem tw_Pt {S : av_V} {t u m a b : Nat} (h : S 5 u ≠ S 5 t) : av_ow (tw (tw S t a) u b) (S 5 t) m = tw_P S t m a := (tw_al (V := tw S t a) (by rw [tw_o (by decide)]; exact h)).ow m
theorem tw_Pu {S : av_V} {t u m a b : Nat} (h : S 5 t ≠ S 5 u) : av_ow (tw (tw S t a) u b) (S 5 u) m = tw_P S u m b := (tw_al2 h).ow m
theorem lb_2D : ∀ a, a < 2 → ∀ b, b < 2 → nI (2 * a + b) / (2 : Int32) = nI a ∧ nI (2 * a + b) - nI (2 * a + b) / (2 : Int32) * (2 : Int32) = nI b ∧ (1 : Int32) - nI a = nI (1 - a) ∧ (10 : Int32) * nI a + nI b = nI (10 * a + b) := by decide
theorem pn_twoStep {σ : lb_Mem} {S : av_V} (hm : rs_M σ S) (hv : av_W S) {t u a b m : Nat} (ht : t < S 8 0) (hu : u < S 8 0) (hne : S 5 t ≠ S 5 u) (ha : a < 2) (hb : b < 2) (hm60 : m ≤ 60) (n : Nat) : ∃ σ1, f_X9_two_131 (n + 1) (nI t) (nI u) (nI m) (nI (S 5 t)) (nI (S 5 u)) (nI (2 * a + b)) σ = (if tw_P S t m a < tw_P S t m (1 - a) ∨ tw_P S u m b < tw_P S u m (1 - b) then f_X9_two_131 n (nI t) (nI u) (nI m) (nI (S 5 t)) (nI (S 5 u)) (nI (2 * a + b + 1)) σ1 else some (nI (10 * a + b), σ1)) ∧ av_fk 55 σ σ1 := by
  have hn := hv.1
  have hp := hv.2.2.2.1 t ht
  have hq := hv.2.2.2.1 u hu
  have t8 : t < 8 := by omega
  have u8 : u < 8 := by omega
  obtain ⟨d1, d2, d3, d4⟩ := lb_2D a ha b hb
  obtain ⟨_, _, d5, _⟩ := lb_2D b hb b hb
  obtain ⟨s1, e1, f1⟩ := pn_lead hm hv hp hq t8 u8 (show 1 - a < 2 by omega) hb hm60
  have m1 := hm.fk0 f1
  obtain ⟨s2, e2, f2⟩ := pn_lead m1 hv hp hq t8 u8 ha hb hm60
  have m2 := m1.fk0 f2
  obtain ⟨s3, e3, f3⟩ := pn_lead m2 hv hq hp t8 u8 ha (show 1 - b < 2 by omega) hm60
  have m3 := m2.fk0 f3
  obtain ⟨s4, e4, f4⟩ := pn_lead m3 hv hq hp t8 u8 ha hb hm60
  rw [tw_Pt (Ne.symm hne), tw_Pu hne] at e1 e2 e3 e4
  rw [f_X9_two_131, if_neg (by rw [lb_k4, lb_le (by omega) (by omega)]; omega), lb_letS, lb_letS, d1, ← d1, d2, d1, d3, e1, lb_bndS, e2, lb_bndS, show nI (2 * a + b) + 1 = nI (2 * a + b + 1) from nI_1 _]
  have b1 := tw_P99 hv (m := m) a t8
  have b2 := tw_P99 hv (m := m) (1 - a) t8
  have b3 := tw_P99 hv (m := m) b u8
  have b4 := tw_P99 hv (m := m) (1 - b) u8
  by_cases c1 : tw_P S t m a < tw_P S t m (1 - a)
  · refine ⟨s2, ?_, f1.tr f2⟩
    rw [if_pos ((lb_sub_lt b1 b2 b3).mpr c1), if_pos (Or.inl c1)]
  · rw [if_neg (fun z => c1 ((lb_sub_lt b1 b2 b3).mp z)), d5, e3, lb_bndS, e4, lb_bndS]
    refine ⟨s4, ?_, f1.tr (f2.tr (f3.tr f4))⟩
    by_cases c2 : tw_P S u m b < tw_P S u m (1 - b)
    · rw [if_pos ((lb_sub_lt b3 b4 b1).mpr c2), if_pos (Or.inr c2)]
    · rw [if_neg (fun z => c2 ((lb_sub_lt b3 b4 b1).mp z)), if_neg (by omega), d4]
def tw_b (S : av_V) (t m : Nat) : Nat := if tw_P S t m 1 ≤ tw_P S t m 0 then 0 else 1
theorem pn_two {σ : lb_Mem} {S : av_V} (hm : rs_M σ S) (hv : av_W S) {t u m : Nat} (ht : t < S 8 0) (hu : u < S 8 0) (hne : S 5 t ≠ S 5 u) (hm60 : m ≤ 60) : ∃ σ1, f_X9_two_131 lb_N (nI t) (nI u) (nI m) (nI (S 5 t)) (nI (S 5 u)) (0 : Int32) σ = some (nI (10 * tw_b S t m + tw_b S u m), σ1) ∧ av_fk 55 σ σ1 := by
  obtain ⟨s1, e1, f1⟩ := pn_twoStep hm hv ht hu hne (a := 0) (b := 0) (by decide) (by decide) hm60 299
  obtain ⟨s2, e2, f2⟩ := pn_twoStep (hm.fk0 f1) hv ht hu hne (a := 0) (b := 1) (by decide) (by decide) hm60 298
  obtain ⟨s3, e3, f3⟩ := pn_twoStep ((hm.fk0 f1).fk0 f2) hv ht hu hne (a := 1) (b := 0) (by decide) (by decide) hm60 297
  obtain ⟨s4, e4, f4⟩ := pn_twoStep (((hm.fk0 f1).fk0 f2).fk0 f3) hv ht hu hne (a := 1) (b := 1) (by decide) (by decide) hm60 296
  rw [show f_X9_two_131 lb_N (nI t) (nI u) (nI m) (nI (S 5 t)) (nI (S 5 u)) (0 : Int32) σ = f_X9_two_131 (299 + 1) (nI t) (nI u) (nI m) (nI (S 5 t)) (nI (S 5 u)) (nI (2 * 0 + 0)) σ from rfl, e1, show 2 * 0 + 0 + 1 = 2 * 0 + 1 from rfl, show f_X9_two_131 299 (nI t) (nI u) (nI m) (nI (S 5 t)) (nI (S 5 u)) (nI (2 * 0 + 1)) s1 = f_X9_two_131 (298 + 1) (nI t) (nI u) (nI m) (nI (S 5 t)) (nI (S 5 u)) (nI (2 * 0 + 1)) s1 from rfl, e2, show 2 * 0 + 1 + 1 = 2 * 1 + 0 from rfl, show f_X9_two_131 298 (nI t) (nI u) (nI m) (nI (S 5 t)) (nI (S 5 u)) (nI (2 * 1 + 0)) s2 = f_X9_two_131 (297 + 1) (nI t) (nI u) (nI m) (nI (S 5 t)) (nI (S 5 u)) (nI (2 * 1 + 0)) s2 from rfl, e3, show 2 * 1 + 0 + 1 = 2 * 1 + 1 from rfl, show f_X9_two_131 297 (nI t) (nI u) (nI m) (nI (S 5 t)) (nI (S 5 u)) (nI (2 * 1 + 1)) s3 = f_X9_two_131 (296 + 1) (nI t) (nI u) (nI m) (nI (S 5 t)) (nI (S 5 u)) (nI (2 * 1 + 1)) s3 from rfl, e4]
  unfold tw_b
  rw [show 1 - 0 = 1 from rfl, show 1 - 1 = 0 from rfl]
  by_cases cP : tw_P S t m 1 ≤ tw_P S t m 0
  · rw [if_pos cP]
    by_cases cQ : tw_P S u m 1 ≤ tw_P S u m 0
    · rw [if_pos cQ, if_neg (by omega)]
      exact ⟨s1, rfl, f1⟩
    · rw [if_neg cQ, if_pos (by omega), if_neg (by omega)]
      exact ⟨s2, rfl, f1.tr f2⟩
  · rw [if_neg cP]
    by_cases cQ : tw_P S u m 1 ≤ tw_P S u m 0
    · rw [if_pos cQ, if_pos (by omega), if_pos (by omega), if_neg (by omega)]
      exact ⟨s3, rfl, f1.tr (f2.tr f3)⟩
    · rw [if_neg cQ, if_pos (by omega), if_pos (by omega), if_pos (by omega), if_neg (by omega)]
      exact ⟨s4, rfl, f1.tr (f2.tr (f3.tr f4))⟩
def ft_d (x1 x2 : Int32) : Nat := if x1 = x2 then 1 else 0
theorem ft_d7 (x1 x2 : Int32) : ft_d x1 x2 < 7 := by unfold ft_d; split <;> decide
def ft_t1 (S : av_V) (x1 x2 : Int32) : Nat := ft_f (ft_f (ft_p S x1) (ft_p S x2)) (ft_d x1 x2)
def ft_t (S : av_V) (x1 x2 x3 : Int32) : Nat := ft_f (ft_t1 S x1 x2) (ft_w x3 0 30)
theorem ft_t17 (S : av_V) (x1 x2 : Int32) : ft_t1 S x1 x2 < 7 := ft_f7 (ft_f7 (ft_p7 _ _) (ft_p7 _ _)) (ft_d7 _ _)
theorem ft_t7 (S : av_V) (x1 x2 x3 : Int32) : ft_t S x1 x2 x3 < 7 := ft_f7 (ft_t17 _ _ _) (ft_w7 _ _ _)
theorem pc_two0 {σ : lb_Mem} {S : av_V} (hc : rs_C σ S) (x1 x2 x3 : Int32) : f_X8_two x1 x2 x3 σ = if -(nI (ft_t S x1 x2 x3)) = 0 then lb_chk (lb_ix x1 8) (if (σ 13 x1.toNatClampNeg) = 0 then f_X8_two_85 x1 x2 x3 σ else lb_chk (lb_ix x2 8) (if (σ 13 x2.toNatClampNeg) = 0 then f_X8_two_85 x1 x2 x3 σ else lb_chk (lb_ix x1 8) (lb_chk (lb_ix x2 8) (if (σ 14 x1.toNatClampNeg) = (σ 14 x2.toNatClampNeg) then f_X8_two_85 x1 x2 x3 σ else f_X8_two_89 x1 x2 x3 (-(nI (ft_t S x1 x2 x3))) σ)))) else f_X8_two_89 x1 x2 x3 (-(nI (ft_t S x1 x2 x3))) σ := by
  have h0 : f_X8_two x1 x2 x3 σ = f_X8_two_20 x1 x2 x3 σ (-(nI (ft_p S x1))) (-(nI (ft_p S x2))) (-(nI (ft_d x1 x2))) := by
    unfold f_X8_two ft_d
    rw [pc_potThere hc, pc_potThere hc]
    by_cases c : x1 = x2
    · rw [if_pos c, if_pos c]; rfl
    · rw [if_neg c, if_neg c]; rfl
  rw [h0, f_X8_two_20, f_X8_first_, pc_first (ft_p7 _ _), pc_first (ft_f7 (ft_p7 _ _) (ft_p7 _ _)), pc_within]
  rw [show ft_f (ft_f (ft_p S x1) (ft_p S x2)) (ft_d x1 x2) = ft_t1 S x1 x2 from rfl, pc_first (ft_t17 _ _ _), lb_letS]
  rfl
theorem pn_two0 {σ : lb_Mem} {S : av_V} (hm : rs_M σ S) (hv : av_W S) (x1 x2 x3 : Int32) : f_X9_two x1 x2 x3 σ = f_X9_two_32 x1 x2 x3 σ (-(nI (ft_t S x1 x2 x3))) := by
  unfold f_X9_two f_X9_two_31 ft_t ft_t1
  rw [pn_isPot hm hv, pn_isPot hm hv, pn_wrongBy]
  by_cases c1 : ft_p S x1 = 0
  · rw [lb_ifn c1, ft_fz c1]
    by_cases c2 : ft_p S x2 = 0
    · rw [lb_ifn c2, ft_fz c2]
      unfold ft_d
      by_cases c3 : x1 = x2
      · rw [if_pos c3, if_pos c3]; rfl
      · rw [if_neg c3, if_neg c3, ft_fz rfl]
    · rw [lb_if1 c2, ft_fn (i := ft_p S x2) c2, ft_fn c2, ft_p1 c2]; rfl
  · rw [lb_if1 c1, ft_fn (i := ft_p S x1) c1, ft_fn (i := ft_p S x1) c1, ft_fn c1, ft_p1 c1]; rfl
theorem st_two : lb_st_two rs_R := by
  intro σ x1 x2 x3 h
  refine rs_go (f8 := fun σ => f_X8_two x1 x2 x3 σ) (f9 := fun σ => f_X9_two x1 x2 x3 σ) h (fun S hw => ?_)
  have hv := hw.1
  have hn := hv.1
  by_cases hj : ft_t S x1 x2 x3 = 0
  · obtain ⟨h1, hw3⟩ := ft_f0 hj
    obtain ⟨h2, hd⟩ := ft_f0 h1
    obtain ⟨hp1, hp2⟩ := ft_f0 h2
    obtain ⟨t, ht, rfl⟩ := ft_p0 hv hp1
    obtain ⟨u, hu, rfl⟩ := ft_p0 hv hp2
    obtain ⟨m, _, hm30, rfl⟩ := ft_w0 (a := 0) (b := 30) (by decide) (by decide) hw3
    have t8 : t < 8 := by omega
    have u8 : u < 8 := by omega
    have hbt := hv.2.2.1 t t8
    have hbu := hv.2.2.1 u u8
    have hm60 : m ≤ 60 := by omega
    have g8 : ∀ σ, rs_C σ S → f_X8_two (nI t) (nI u) (nI m) σ = if S 4 t = 0 ∨ S 4 u = 0 ∨ S 5 t = S 5 u then f_X8_two_85 (nI t) (nI u) (nI m) σ else f_X8_two_89 (nI t) (nI u) (nI m) (-(nI 0)) σ := by
      intro σ hc
      rw [pc_two0 hc, hj, lb_if0, lb_ixN t8 (by decide), lb_ixN u8 (by decide), lb_chkT, lb_chkT, lb_chkT, lb_chkT, lb_cl (by omega), lb_cl (by omega), show σ 13 t = nI (S 4 t) from hc.1.r4 t t8, show σ 13 u = nI (S 4 u) from hc.1.r4 u u8, show σ 14 t = nI (S 5 t) from hc.1.r5 t t8, show σ 14 u = nI (S 5 u) from hc.1.r5 u u8]
      by_cases c1 : S 4 t = 0
      · rw [if_pos (show nI (S 4 t) = 0 by rw [c1]; rfl), if_pos (Or.inl c1)]
      rw [if_neg (show ¬ nI (S 4 t) = 0 by rw [lb_k0, lb_eq (by omega) (by omega)]; exact c1)]
      by_cases c2 : S 4 u = 0
      · rw [if_pos (show nI (S 4 u) = 0 by rw [c2]; rfl), if_pos (Or.inr (Or.inl c2))]
      rw [if_neg (show ¬ nI (S 4 u) = 0 by rw [lb_k0, lb_eq (by omega) (by omega)]; exact c2)]
      by_cases c3 : S 5 t = S 5 u
      · rw [if_pos (show nI (S 5 t) = nI (S 5 u) by rw [c3]), if_pos (Or.inr (Or.inr c3))]
      · rw [if_neg (show ¬ nI (S 5 t) = nI (S 5 u) by rw [lb_eq (by omega) (by omega)]; exact c3), if_neg (by omega)]
    have g9 : ∀ σ, rs_M σ S → f_X9_two (nI t) (nI u) (nI m) σ = if S 4 t = 0 ∨ S 4 u = 0 ∨ S 5 t = S 5 u then f_X9_two_88 (nI t) (nI u) (nI m) σ else f_X9_two_92 (nI t) (nI u) (nI m) (-(nI 0)) σ := by
      intro σ hm
      rw [pn_two0 hm hv, hj, f_X9_two_32, lb_if0, show f_X9_ofT (nI t) (4 : Int32) = nI (3 + 6 * t + 4) from pm_oT t 4, show f_X9_ofT (nI u) (4 : Int32) = nI (3 + 6 * u + 4) from pm_oT u 4, show f_X9_ofT (nI t) (5 : Int32) = nI (3 + 6 * t + 5) from pm_oT t 5, show f_X9_ofT (nI u) (5 : Int32) = nI (3 + 6 * u + 5) from pm_oT u 5, lb_ixN (show 3 + 6 * t + 4 < 61 by omega) (by decide), lb_ixN (show 3 + 6 * u + 4 < 61 by omega) (by decide), lb_ixN (show 3 + 6 * t + 5 < 61 by omega) (by decide), lb_ixN (show 3 + 6 * u + 5 < 61 by omega) (by decide), lb_chkT, lb_chkT, lb_chkT, lb_chkT, lb_cl (show 3 + 6 * t + 4 < 2147483648 by omega), lb_cl (show 3 + 6 * u + 4 < 2147483648 by omega), lb_cl (show 3 + 6 * t + 5 < 2147483648 by omega), lb_cl (show 3 + 6 * u + 5 < 2147483648 by omega), hm.1.t4 t t8, hm.1.t4 u u8, hm.1.t5 t t8, hm.1.t5 u u8]
      by_cases c1 : S 4 t = 0
      · rw [if_pos (show nI (S 4 t) = 0 by rw [c1]; rfl), if_pos (Or.inl c1)]
      rw [if_neg (show ¬ nI (S 4 t) = 0 by rw [lb_k0, lb_eq (by omega) (by omega)]; exact c1)]
      by_cases c2 : S 4 u = 0
      · rw [if_pos (show nI (S 4 u) = 0 by rw [c2]; rfl), if_pos (Or.inr (Or.inl c2))]
      rw [if_neg (show ¬ nI (S 4 u) = 0 by rw [lb_k0, lb_eq (by omega) (by omega)]; exact c2)]
      by_cases c3 : S 5 t = S 5 u
      · rw [if_pos (show nI (S 5 t) = nI (S 5 u) by rw [c3]), if_pos (Or.inr (Or.inr c3))]
      · rw [if_neg (show ¬ nI (S 5 t) = nI (S 5 u) by rw [lb_eq (by omega) (by omega)]; exact c3), if_neg (by omega)]
    by_cases c : S 4 t = 0 ∨ S 4 u = 0 ∨ S 5 t = S 5 u
    · refine rs_rg hw (j := 3) (by decide) (fun σ hc => ?_) (fun σ hm => ?_)
      · try dsimp only
        rw [g8 σ hc, if_pos c, f_X8_two_85, f_X8_two_89]
        exact pc_else hc (j := 3) (by decide) (by decide)
      · try dsimp only
        rw [g9 σ hm, if_pos c, f_X9_two_88, f_X9_two_92]
        exact pn_else hm (j := 3) (by decide) (by decide)
    · have hne : S 5 t ≠ S 5 u := by omega
      refine ⟨nI (10 * tw_b S t m + tw_b S u m), S, hw, fun σ hc => ?_, fun σ hm => ?_⟩
      · try dsimp only
        obtain ⟨s1, e1, f1⟩ := pc_better hc hv t8 hm60
        obtain ⟨s2, e2, f2⟩ := pc_better (hc.fr0 f1) hv u8 hm60
        have hP : ∀ t, tw_b S t m = if av_ow (av_st S 4 t 0) (S 5 t) m ≤ av_ow S (S 5 t) m then 0 else 1 := fun t => rfl
        rw [g8 σ hc, if_neg c, f_X8_two_89, lb_if0, e1, lb_bndS, hP t, hP u]
        by_cases cP : av_ow (av_st S 4 t 0) (S 5 t) m ≤ av_ow S (S 5 t) m
        · rw [if_pos cP, if_pos cP, if_pos rfl, f_X8_two_117, e2, lb_bndS]
          by_cases cQ : av_ow (av_st S 4 u 0) (S 5 u) m ≤ av_ow S (S 5 u) m
          · rw [if_pos cQ, if_pos cQ, if_pos rfl]; exact hc.fr (f1.tr f2)
          · rw [if_neg cQ, if_neg cQ, if_neg (show ¬ (1 : Int32) = 0 by decide)]; exact hc.fr (f1.tr f2)
        · rw [if_neg cP, if_neg cP, if_neg (show ¬ (1 : Int32) = 0 by decide), f_X8_two_117, e2, lb_bndS]
          by_cases cQ : av_ow (av_st S 4 u 0) (S 5 u) m ≤ av_ow S (S 5 u) m
          · rw [if_pos cQ, if_pos cQ, if_pos rfl]; exact hc.fr (f1.tr f2)
          · rw [if_neg cQ, if_neg cQ, if_neg (show ¬ (1 : Int32) = 0 by decide)]; exact hc.fr (f1.tr f2)
      · try dsimp only
        obtain ⟨s1, e1, f1⟩ := pn_two hm hv ht hu hne hm60
        rw [g9 σ hm, if_neg c, f_X9_two_92, lb_if0, show f_X9_ofT (nI t) (5 : Int32) = nI (3 + 6 * t + 5) from pm_oT t 5, show f_X9_ofT (nI u) (5 : Int32) = nI (3 + 6 * u + 5) from pm_oT u 5, lb_ixN (show 3 + 6 * t + 5 < 61 by omega) (by decide), lb_ixN (show 3 + 6 * u + 5 < 61 by omega) (by decide), lb_chkT, lb_letS, lb_chkT, lb_letS, lb_cl (show 3 + 6 * t + 5 < 2147483648 by omega), lb_cl (show 3 + 6 * u + 5 < 2147483648 by omega), hm.1.t5 t t8, hm.1.t5 u u8, e1]
        exact hm.fk f1
  · refine rs_rg hw hj (fun σ hc => ?_) (fun σ hm => ?_)
    · try dsimp only
      rw [pc_two0 hc, lb_ifj hj (ft_t7 _ _ _ _), f_X8_two_89]
      exact pc_else hc hj (ft_t7 _ _ _ _)
    · try dsimp only
      rw [pn_two0 hm hv, f_X9_two_32, lb_ifj hj (ft_t7 _ _ _ _), f_X9_two_92]
      exact pn_else hm hj (ft_t7 _ _ _ _)
