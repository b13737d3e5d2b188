theorem rs_C.fr {T : Type} {σ σ' : lb_Mem} {S : av_V} {r : T} (h : rs_C σ S) (e : av_fr 17 σ σ') : rs_cl σ (some (r, σ')) r S := ⟨σ', rfl, h.cong (fun k _ hk => e k (by omega)), fun k hk => e k (by omega)⟩
theorem rs_M.fk {T : Type} {σ σ' : lb_Mem} {S : av_V} {r : T} (h : rs_M σ S) (e : av_fk 55 σ σ') : rs_mo σ (some (r, σ')) r S := ⟨σ', rfl, h.cong (fun k _ hk _ _ => e k hk), fun k hk => e k (by omega)⟩
theorem pc_mind {σ : lb_Mem} {S : av_V} (h : rs_C σ S) : ∃ σ1, f_X7_become 17 1 σ = some σ1 ∧ av_C 17 σ1 S ∧ av_fr 17 σ σ1 := pv_become h.1 (by omega)
theorem pn_copy {σ : lb_Mem} {S : av_V} (h : rs_M σ S) : ∃ σ1, f_X9_copies 54 55 σ = some σ1 ∧ av_M 55 σ1 S ∧ av_fk 55 σ σ1 := by
  obtain ⟨σ1, a, b, c⟩ := pm_copies (k0 := 54) (k1 := 55) (by decide) σ
  exact ⟨σ1, a, h.1.copied b, c⟩
theorem pn_takes {σ : lb_Mem} {S : av_V} (h : rs_M σ S) (hv : av_W S) {n : Nat} (hn : n ≤ 60) : ∃ σ1, f_X9_takes (nI n) σ = some σ1 ∧ av_M 55 σ1 (av_ys S n) ∧ av_fk 55 σ σ1 := by
  obtain ⟨σ1, a1, a2, a3⟩ := pn_copy h
  obtain ⟨σ2, b1, b2, b3⟩ := pm_yearsOn a2 hv hn
  refine ⟨σ2, ?_, b2, a3.tr b3⟩
  unfold f_X9_takes
  rw [a1, lb_bndS, b1, lb_bndS]
theorem av_ys81 (S : av_V) (n : Nat) : av_ys S n 8 1 = S 8 1 := by rw [av_ys8, if_neg (by decide)]
theorem av_ys80 (S : av_V) (n : Nat) : av_ys S n 8 0 = S 8 0 := by rw [av_ys8, if_neg (by decide)]
theorem pc_behind {σ : lb_Mem} {S : av_V} (h : rs_C σ S) (hv : av_W S) {n : Nat} (hn : n ≤ 60) : ∃ σ1, f_X8_allGraceBehind (nI n) σ = some (nI (av_sm (av_ys S n 7) (S 8 1)), σ1) ∧ av_fr 17 σ σ1 := by
  obtain ⟨σ1, a1, a2, a3⟩ := pc_mind h
  obtain ⟨σ2, b1, b2, b3⟩ := pv_pass a2 hv hn
  refine ⟨σ2, ?_, a3.tr b3⟩
  unfold f_X8_allGraceBehind
  rw [a1, lb_bndS, b1, lb_bndS, pv_allGrace b2 (hv.ys n), lb_bndS, av_ys81]
theorem pn_graceNow {σ : lb_Mem} {S : av_V} (h : rs_M σ S) (hv : av_W S) {n : Nat} (hn : n ≤ 60) : ∃ σ1, f_X9_graceNow (nI n) σ = some (nI (av_sm (av_ys S n 7) (S 8 1)), σ1) ∧ av_fk 55 σ σ1 := by
  obtain ⟨σ1, a1, a2, a3⟩ := pn_takes h hv hn
  refine ⟨σ1, ?_, a3⟩
  unfold f_X9_graceNow
  rw [a1, lb_bndS, pm_allGrace a2 (hv.ys n), lb_bndS, av_ys81]
theorem st_graceThen : lb_st_graceThen rs_R := by
  intro σ x1 h
  refine rs_go (f8 := fun σ => f_X8_graceThen x1 σ) (f9 := fun σ => f_X9_graceThen x1 σ) h (fun S hw => ?_)
  have hv := hw.1
  by_cases hj : ft_w x1 0 60 = 0
  · obtain ⟨n, hn0, hn, rfl⟩ := ft_w0 (a := 0) (b := 60) (by decide) (by decide) hj
    refine ⟨nI (av_sm (av_ys S n 7) (S 8 1)), S, hw, fun σ hc => ?_, fun σ hm => ?_⟩
    · obtain ⟨σ1, a1, a2⟩ := pc_behind hc hv hn
      unfold f_X8_graceThen
      rw [pc_within, hj, lb_letS, lb_if0, lb_bid, a1]
      exact hc.fr a2
    · obtain ⟨σ1, a1, a2, a3⟩ := pn_takes hm hv hn
      unfold f_X9_graceThen
      rw [pn_wrongBy, hj, lb_letS, lb_if0, a1, lb_bndS, pm_allGrace a2 (hv.ys n), lb_bndS, av_ys81]
      exact hm.fk a3
  · refine rs_rg hw hj (fun σ hc => ?_) (fun σ hm => ?_)
    · try dsimp only
      unfold f_X8_graceThen
      rw [pc_within, lb_letS]
      exact pc_else hc hj (ft_w7 _ _ _)
    · try dsimp only
      unfold f_X9_graceThen
      rw [pn_wrongBy, lb_letS]
      exact pn_else hm hj (ft_w7 _ _ _)
theorem st_fullThen : lb_st_fullThen rs_R := by
  intro σ x1 x2 h
  refine rs_go (f8 := fun σ => f_X8_fullThen x1 x2 σ) (f9 := fun σ => f_X9_fullThen x1 x2 σ) h (fun S hw => ?_)
  have hv := hw.1
  have e9 : ∀ σ, rs_M σ S → f_X9_fullThen x1 x2 σ = f_X9_fullThen_19 x1 x2 σ (-(nI (ft_f (ft_p S x1) (ft_w x2 0 60)))) := by
    intro σ hm
    unfold f_X9_fullThen
    rw [pn_isPot hm hv, pn_wrongBy]
    by_cases c : ft_p S x1 = 0
    · rw [lb_ifn c, ft_fz c]
    · rw [lb_if1 c, ft_fn c, ft_p1 c]; rfl
  by_cases hj : ft_f (ft_p S x1) (ft_w x2 0 60) = 0
  · obtain ⟨j1, j2⟩ := ft_f0 hj
    obtain ⟨t, ht, rfl⟩ := ft_p0 hv j1
    obtain ⟨n, hn0, hn, rfl⟩ := ft_w0 (a := 0) (b := 60) (by decide) (by decide) j2
    have h8 : t < 8 := by have := hv.1; omega
    have hq := hv.2.2.2.1 t ht
    have h5 := (hv.2.2.1 t h8).2.2.2.2.2
    refine ⟨nI (av_ys S n 4 t), S, hw, fun σ hc => ?_, fun σ hm => ?_⟩
    · obtain ⟨σ1, a1, a2, a3⟩ := pc_mind hc
      obtain ⟨σ2, b1, b2, b3⟩ := pv_passFor a2 hv h5 hn
      unfold f_X8_fullThen
      rw [pc_potThere hc, pc_within, pc_first (ft_p7 _ _), hj, lb_letS, lb_if0, a1, lb_bndS, lb_ixN h8 (by decide), lb_chkT, lb_cl (by omega), show σ1 30 t = nI (S 5 t) from a2.r5 t h8, b1, lb_bndS, lb_chkT, show σ2 29 t = nI (av_p S (S 5 t) n 4 t) from b2.r4 t h8, ← (av_ys_al hq n).2.2.2.2 t (by rw [av_ys_st _ _ _ (by decide) (by decide) (by decide)])]
      exact hc.fr (a3.tr b3)
    · obtain ⟨σ1, a1, a2, a3⟩ := pn_takes hm hv hn
      rw [e9 σ hm, f_X9_fullThen_19, hj, lb_if0, a1, lb_bndS, show f_X9_ofT (nI t) (4 : Int32) = nI (3 + 6 * t + 4) from pm_oT t 4, lb_ixN (by omega) (by decide), lb_chkT, lb_cl (by omega), a2.t4 t h8]
      exact hm.fk a3
  · refine rs_rg hw hj (fun σ hc => ?_) (fun σ hm => ?_)
    · try dsimp only
      unfold f_X8_fullThen
      rw [pc_potThere hc, pc_within, pc_first (ft_p7 _ _), lb_letS]
      exact pc_else hc hj (ft_f7 (ft_p7 _ _) (ft_w7 _ _ _))
    · try dsimp only
      rw [e9 σ hm, f_X9_fullThen_19]
      exact pn_else hm hj (ft_f7 (ft_p7 _ _) (ft_w7 _ _ _))
theorem st_personThen : lb_st_personThen rs_R := by
  intro σ x1 x2 x3 h
  refine rs_go (f8 := fun σ => f_X8_personThen x1 x2 x3 σ) (f9 := fun σ => f_X9_personThen x1 x2 x3 σ) h (fun S hw => ?_)
  have hv := hw.1
  have h7 : ft_f (ft_f (ft_q S x1) (ft_w x2 0 60)) (ft_k x3 1) < 7 := ft_f7 (ft_f7 (ft_q7 _ _) (ft_w7 _ _ _)) (ft_k7 _ _)
  have e8 : ∀ σ, rs_C σ S → f_X8_first_ (f_X8_personThere σ x1) (f_X8_within x2 (0 : Int32) (60 : Int32)) (f_X8_known x3 (1 : Int32)) = -(nI (ft_f (ft_f (ft_q S x1) (ft_w x2 0 60)) (ft_k x3 1))) := by
    intro σ hc
    unfold f_X8_first_
    rw [pc_personThere hc, pc_known, pc_within, pc_first (ft_q7 _ _), pc_first (ft_f7 (ft_q7 _ _) (ft_w7 _ _ _))]
  have e19 : ∀ σ j, j < 7 → f_X9_personThen_19 x1 x2 x3 σ (-(nI j)) = f_X9_personThen_39 x1 x2 x3 (-(nI (ft_f j (ft_k x3 1)))) σ := by
    intro σ j hj
    unfold f_X9_personThen_19
    rw [pn_isIn0]
    by_cases c : j = 0
    · subst c
      rw [lb_if0, ft_fz rfl]
      by_cases c2 : ft_l x3 1 = 0
      · rw [lb_ifn c2, (ft_kl _ _).mpr c2]
      · have c3 : ¬ ft_k x3 1 = 0 := fun z => c2 ((ft_kl _ _).mp z)
        rw [lb_if1 c2, ft_k2 c3]; rfl
    · rw [lb_ifj c hj, ft_fn c]
  have e9 : ∀ σ, rs_M σ S → f_X9_personThen x1 x2 x3 σ = f_X9_personThen_39 x1 x2 x3 (-(nI (ft_f (ft_f (ft_q S x1) (ft_w x2 0 60)) (ft_k x3 1)))) σ := by
    intro σ hm
    unfold f_X9_personThen
    rw [pn_isPerson hm hv, pn_wrongBy]
    by_cases c : ft_q S x1 = 0
    · rw [lb_ifn c, ft_fz c, e19 σ _ (ft_w7 _ _ _)]
    · rw [lb_if1 c, ft_fn c, ft_q1 c, show (-1 : Int32) = -(nI 1) from rfl, e19 σ 1 (by decide)]
  by_cases hj : ft_f (ft_f (ft_q S x1) (ft_w x2 0 60)) (ft_k x3 1) = 0
  · obtain ⟨j1, j3⟩ := ft_f0 hj
    obtain ⟨j1, j2⟩ := ft_f0 j1
    obtain ⟨p, hp, rfl⟩ := ft_q0 hv j1
    obtain ⟨n, hn0, hn, rfl⟩ := ft_w0 (a := 0) (b := 60) (by decide) (by decide) j2
    obtain ⟨a, ha, rfl⟩ := ft_k0 (m := 1) (by decide) j3
    have h5 : p < 5 := by have := hv.2.1; omega
    have hal := av_ys_al hp n
    refine ⟨if a = 0 then nI (av_ys S n 7 p) else av_enc (av_op (av_ys S n) p (S 8 0)), S, hw, fun σ hc => ?_, fun σ hm => ?_⟩
    · obtain ⟨σ1, a1, a2, a3⟩ := pc_mind hc
      obtain ⟨σ2, b1, b2, b3⟩ := pv_passFor a2 hv h5 hn
      unfold f_X8_personThen
      rw [e8 σ hc, hj, lb_letS, lb_if0, a1, lb_bndS, b1, lb_bndS, lb_ixN h5 (by decide), lb_chkT, lb_cl (by omega), show σ2 32 p = nI (av_p S p n 7 p) from b2.r7 p h5, pv_opened b2 (hv.p p n) h5, lb_bndS, av_p8, ← hal.2.2.2.1, ← hal.op]
      by_cases c : a = 0
      · subst c; rw [if_pos rfl, if_pos (show nI 0 = 0 from rfl)]; exact hc.fr (a3.tr b3)
      · rw [if_neg c, if_neg (by rw [lb_k0, lb_eq (by omega) (by omega)]; exact c)]; exact hc.fr (a3.tr b3)
    · obtain ⟨σ1, a1, a2, a3⟩ := pn_takes hm hv hn
      rw [e9 σ hm, f_X9_personThen_39, hj, lb_if0, a1, lb_bndS, show f_X9_ofP (nI p) (1 : Int32) = nI (51 + 2 * p + 1) from pm_oP p 1, lb_ixN (by omega) (by decide), lb_chkT, lb_cl (by omega), a2.p1 p h5, pm_opensIn a2 (hv.ys n) h5, lb_bndS, av_ys80]
      by_cases c : a = 0
      · subst c; rw [if_pos rfl, if_pos (show nI 0 = 0 from rfl)]; exact hm.fk a3
      · rw [if_neg c, if_neg (by rw [lb_k0, lb_eq (by omega) (by omega)]; exact c)]; exact hm.fk a3
  · refine rs_rg hw hj (fun σ hc => ?_) (fun σ hm => ?_)
    · try dsimp only
      unfold f_X8_personThen
      rw [e8 σ hc, lb_letS]
      exact pc_else hc hj h7
    · try dsimp only
      rw [e9 σ hm, f_X9_personThen_39]
      exact pn_else hm hj h7
theorem st_years : lb_st_years rs_R := by
  intro σ x1 h
  refine rs_go (f8 := fun σ => f_X8_years x1 σ) (f9 := fun σ => f_X9_years x1 σ) h (fun S hw => ?_)
  have hv := hw.1
  have hy := hw.2.1
  by_cases hj : ft_w x1 1 60 = 0
  · obtain ⟨n, hn0, hn, rfl⟩ := ft_w0 (a := 1) (b := 60) (by decide) (by decide) hj
    have g8 : ∀ σ, rs_C σ S → f_X8_years (nI n) σ = f_X8_years_28 (nI n) σ (-(nI 0)) (-(nI (if 999 < S 8 2 + n then 6 else 0))) := by
      intro σ hc
      unfold f_X8_years
      rw [pc_within, hj, hc.1.yr, show (999 : Int32) = nI 999 from rfl, lb_sb1 (by omega)]
      by_cases c : 999 < S 8 2 + n
      · rw [if_pos c, if_pos (by rw [lb_lt (by omega) (by omega)]; omega)]; rfl
      · rw [if_neg c, if_neg (by rw [lb_lt (by omega) (by omega)]; omega)]; rfl
    by_cases c : 999 < S 8 2 + n
    · refine rs_rg hw (j := 6) (by decide) (fun σ hc => ?_) (fun σ hm => ?_)
      · try dsimp only
        rw [g8 σ hc, if_pos c, f_X8_years_28, pc_first (by decide), lb_letS]
        exact pc_else hc (j := 6) (by decide) (by decide)
      · try dsimp only
        unfold f_X9_years
        rw [if_pos (by rw [lb_k1, lb_le (by omega) (by omega)]; omega), if_neg (by rw [lb_k60, lb_lt (by omega) (by omega)]; omega), show (2 : Int32).toNatClampNeg = 2 from rfl, hm.1.yr, lb_ad1, if_neg (by rw [show (999 : Int32) = nI 999 from rfl, lb_le (by omega) (by omega)]; omega), f_X9_years_32]
        exact (pn_no6 hm).bid
    · have hw8 : rs_W (av_ys S n) := by
        refine hw.vil (hv.ys n) (by rw [av_ys8, if_pos rfl]; omega) (fun b i hb => av_ys_st _ _ _ (by omega) (by omega) (by omega) _)
      refine ⟨nI (av_sm (av_ys S n 7) (S 8 1)), av_ys S n, hw8, fun σ hc => ?_, fun σ hm => ?_⟩
      · obtain ⟨σ1, b1, b2, b3⟩ := pv_pass hc.1 hv hn
        rw [g8 σ hc, if_neg c, f_X8_years_28, pc_first (by decide), lb_letS, show ft_f 0 0 = 0 from rfl, lb_if0, b1, lb_bndS, pv_allGrace b2 (hv.ys n), lb_bndS, av_ys81]
        have f : ∀ b i, 9 ≤ b → av_ys S n b i = S b i := fun b i hb => av_ys_st _ _ _ (by omega) (by omega) (by omega) _
        have ek : rs_kv (av_ys S n) = rs_kv S := by funext b i; exact f _ _ (by omega)
        obtain ⟨_, h2, h3, h4, h5, h6, h7, h8⟩ := hc
        refine ⟨σ1, rfl, ⟨b2, by rw [ek]; exact h2.cong (fun k _ _ => b3 k (by omega)), ?_, ?_, ?_, fun i hi => ?_, fun i hi => ?_, fun i hi => ?_⟩, fun k hk => b3 k (by omega)⟩
        · rw [b3 0 (by decide), f 9 0 (by decide)]; exact h3
        · rw [b3 49 (by decide), f 9 1 (by decide)]; exact h4
        · rw [b3 0 (by decide), f 9 2 (by decide)]; exact h5
        · rw [b3 50 (by decide), f 10 i (by decide)]; exact h6 i hi
        · rw [b3 51 (by decide), f 11 i (by decide)]; exact h7 i hi
        · rw [b3 52 (by decide), f 12 i (by decide)]; exact h8 i hi
      · obtain ⟨σ1, b1, b2, b3⟩ := pm_yearsOn hm.1 hv hn
        unfold f_X9_years
        rw [if_pos (by rw [lb_k1, lb_le (by omega) (by omega)]; omega), if_neg (by rw [lb_k60, lb_lt (by omega) (by omega)]; omega), show (2 : Int32).toNatClampNeg = 2 from rfl, hm.1.yr, lb_ad1, if_pos (by rw [show (999 : Int32) = nI 999 from rfl, lb_le (by omega) (by omega)]; omega), b1, lb_bndS, pm_allGrace b2 (hv.ys n), lb_bndS, av_ys81]
        exact ⟨σ1, rfl, hm.row b2 b3 (fun b i hb => av_ys_st _ _ _ (by omega) (by omega) (by omega) _), fun k hk => b3 k (by omega)⟩
  · refine rs_rg hw hj (fun σ hc => ?_) (fun σ hm => ?_)
    · try dsimp only
      have g : ∀ y : Nat, f_X8_years_28 x1 σ (f_X8_within x1 (1 : Int32) (60 : Int32)) (-(nI y)) = f_X8_years_28 x1 σ (-(nI (ft_w x1 1 60))) (-(nI y)) := fun y => by rw [pc_within]
      have g2 : ∀ y : Nat, rs_cl σ (f_X8_years_28 x1 σ (-(nI (ft_w x1 1 60))) (-(nI y))) (-(nI (ft_w x1 1 60))) (rs_ref S (ft_w x1 1 60)) := by
        intro y
        unfold f_X8_years_28
        rw [pc_first (ft_w7 _ _ _), ft_fn hj, lb_letS]
        exact pc_else hc hj (ft_w7 _ _ _)
      unfold f_X8_years
      split
      · rw [show (-6 : Int32) = -(nI 6) from rfl, g]; exact g2 6
      · rw [show (0 : Int32) = -(nI 0) from rfl] ; rw [show f_X8_within x1 1 60 = -(nI (ft_w x1 1 60)) from pc_within _ _ _]; exact g2 0
    · try dsimp only
      unfold f_X9_years f_X9_years_32
      by_cases c1 : x1 < 1
      · have e : ft_w x1 1 60 = 4 := if_pos c1
        rw [if_neg (Int32.not_le.mpr c1), e]
        exact (pn_no4 hm).bid
      · rw [if_pos (Int32.not_lt.mp c1)]
        by_cases c2 : (60 : Int32) < x1
        · have e : ft_w x1 1 60 = 6 := by unfold ft_w; rw [if_neg c1, if_pos c2]
          rw [if_pos c2, e]
          exact (pn_no6 hm).bid
        · exact absurd (show ft_w x1 1 60 = 0 by unfold ft_w; rw [if_neg c1, if_neg c2]) hj
