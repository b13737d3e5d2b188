theorem st_person : lb_st_person rs_R := by
  intro σ x1 x2 h
  refine rs_go (f8 := fun σ => f_X8_person x1 x2 σ) (f9 := fun σ => f_X9_person x1 x2 σ) h (fun S hw => ?_)
  have hv := hw.1
  by_cases hj : ft_f (ft_q S x1) (ft_k x2 3) = 0
  · obtain ⟨j1, j2⟩ := ft_f0 hj
    obtain ⟨t, ht, rfl⟩ := ft_q0 hv j1
    obtain ⟨a, ha, rfl⟩ := ft_k0 (m := 3) (by decide) j2
    have h5 : t < 5 := by have := hv.2.1; omega
    refine ⟨if a = 0 then nI (S 6 t) else if a = 1 then nI (S 7 t) else if a = 2 then av_enc (av_op S t (S 8 0)) else nI (av_bt (fun u => decide (S 5 u = t)) id (S 8 0)), S, hw, fun σ hc => ?_, fun σ hm => ?_⟩
    · try dsimp only
      unfold f_X8_person
      rw [pc_personThere hc, pc_known, pc_first (ft_q7 _ _), hj, lb_letS, lb_if0, lb_ixN h5 (by decide), pv_opened hc.1 hv h5, pv_potsOf hc.1 hv h5]
      simp (disch := omega) only [lb_k0, lb_k1, lb_k2, lb_k3, lb_k4, lb_k5, lb_k6, lb_k7, lb_k8, lb_k9, lb_k10, lb_k11, lb_k12, lb_k13, lb_k14, lb_k15, lb_k16, lb_k19, lb_k20, lb_k30, lb_k31, lb_k48, lb_k51, lb_k55, lb_k59, lb_k60, lb_k61, lb_k63, lb_k96, lb_k98, lb_k99, lb_k100, lb_k102, lb_k103, lb_k104, lb_k106, lb_k107, lb_k108, lb_k112, lb_k115, lb_k116, lb_k121, lb_k255, lb_k256, lb_k999, lb_ixN, lb_chkT, lb_letS, lb_bndS, lb_cl, lb_le, lb_lt, lb_eq, lb_ad1, lb_sb1, lb_ml1]
      have e6 := hc.1.r6 t h5
      have e7 := hc.1.r7 t h5
      rcases (show a = 0 ∨ a = 1 ∨ a = 2 ∨ a = 3 by omega) with rfl | rfl | rfl | rfl
      · rw [if_pos rfl, if_pos rfl, show σ 15 t = nI (S 6 t) from e6]; exact hc.same
      · simp only [if_neg (show ¬ (1 : Nat) = 0 by decide), if_pos]; rw [show σ 16 t = nI (S 7 t) from e7]; exact hc.same
      · simp only [if_neg (show ¬ (2 : Nat) = 0 by decide), if_neg (show ¬ (2 : Nat) = 1 by decide), if_pos]; exact hc.same
      · simp only [if_neg (show ¬ (3 : Nat) = 0 by decide), if_neg (show ¬ (3 : Nat) = 1 by decide), if_neg (show ¬ (3 : Nat) = 2 by decide)]; exact hc.same
    · try dsimp only
      unfold f_X9_person
      rw [pn_isPerson hm hv, lb_ifn j1, pm_opensIn hm.1 hv h5, pm_potsOf hm.1 hv h5, pm_oP]
      have e6 := hm.1.p0 t h5
      have e7 := hm.1.p1 t h5
      rcases (show a = 0 ∨ a = 1 ∨ a = 2 ∨ a = 3 by omega) with rfl | rfl | rfl | rfl
      · rw [if_pos (show nI 0 = 0 from rfl), if_pos rfl, lb_ixN (by omega) (by decide), lb_chkT, lb_cl (by omega), e6]; exact hm.same
      · rw [if_neg (by decide), if_pos (show nI 1 = 1 from rfl), if_neg (by decide), if_pos rfl, lb_ixN (by omega) (by decide), lb_chkT, lb_cl (by omega), e7]; exact hm.same
      · rw [if_neg (by decide), if_neg (by decide), if_pos (show nI 2 = 2 from rfl), if_neg (by decide), if_neg (by decide), if_pos rfl]; exact hm.same
      · rw [if_neg (by decide), if_neg (by decide), if_neg (by decide), if_pos (show nI 3 = 3 from rfl), if_neg (by decide), if_neg (by decide), if_neg (by decide)]; exact hm.same
  · refine rs_rg hw hj (fun σ hc => ?_) (fun σ hm => ?_)
    · try dsimp only
      unfold f_X8_person
      rw [pc_personThere hc, pc_known, pc_first (ft_q7 _ _), lb_letS]
      exact pc_else hc hj (ft_f7 (ft_q7 _ _) (ft_k7 _ _))
    · try dsimp only
      unfold f_X9_person
      rw [pn_isPerson hm hv]
      by_cases c1 : ft_q S x1 = 0
      · rw [ft_fz c1] at hj ⊢
        rw [lb_ifn c1, ft_k2 hj]
        have c2 : x2 < 0 ∨ (3 : Int32) < x2 := by
          unfold ft_k at hj
          by_cases c : x2 < 0 ∨ (3 : Int32) < x2
          · exact c
          · rw [if_neg c] at hj; exact absurd rfl hj
        have n0 : ∀ k : Nat, k ≤ 3 → ¬ x2 = nI k := by
          rintro k hk rfl
          rcases c2 with z | z
          · exact nI_pos (by omega) z
          · rw [lb_k3, lb_lt (by omega) (by omega)] at z; omega
        rw [if_neg (show ¬ x2 = 0 from n0 0 (by decide)), if_neg (show ¬ x2 = 1 from n0 1 (by decide)), if_neg (show ¬ x2 = 2 from n0 2 (by decide)), if_neg (show ¬ x2 = 3 from n0 3 (by decide))]
        exact (pn_no2 hm).bid
      · rw [ft_fn c1, lb_if1 c1, ft_q1 c1]
        exact (pn_no1 hm).bid
theorem st_gains : lb_st_gains rs_R := by
  intro σ x1 x2 h
  refine rs_go (f8 := fun σ => f_X8_gains x1 x2 σ) (f9 := fun σ => f_X9_gains x1 x2 σ) h (fun S hw => ?_)
  have hv := hw.1
  by_cases hj : ft_f (ft_p S x1) (ft_q S x2) = 0
  · obtain ⟨j1, j2⟩ := ft_f0 hj
    obtain ⟨t, ht, rfl⟩ := ft_p0 hv j1
    obtain ⟨p, hp, rfl⟩ := ft_q0 hv j2
    have h8 : t < 8 := by have := hv.1; omega
    have h5 : p < 5 := by have := hv.2.1; omega
    refine ⟨Int32.ofInt (av_gn S t p), S, hw, fun σ hc => ?_, fun σ hm => ?_⟩
    · try dsimp only
      unfold f_X8_gains
      rw [pc_potThere hc, pc_personThere hc, pc_first (ft_p7 _ _), hj, lb_letS, lb_if0, pv_gained hc.1 hv h5 h8]
      exact hc.same
    · try dsimp only
      unfold f_X9_gains
      rw [pn_isPot hm hv, pn_isPerson hm hv, lb_ifn j1, lb_ifn j2, pm_gains hm.1 hv h5 h8]
      exact hm.same
  · refine rs_rgF hw hj (fun σ hc => ?_) (fun σ hm => ?_)
    · try dsimp only
      unfold f_X8_gains
      rw [pc_potThere hc, pc_personThere hc, pc_first (ft_p7 _ _), lb_letS, lb_ifj hj (ft_f7 (ft_p7 _ _) (ft_q7 _ _))]
      exact (pc_far hc (ft_f7 (ft_p7 _ _) (ft_q7 _ _))).bid
    · try dsimp only
      unfold f_X9_gains f_X9_gains_28
      rw [pn_isPot hm hv, pn_isPerson hm hv]
      by_cases c1 : ft_p S x1 = 0
      · rw [ft_fz c1] at hj ⊢
        rw [lb_ifn c1, lb_if1 hj, ft_q1 hj]
        exact (pn_far hm (j := 1) (by decide)).bid
      · rw [ft_fn c1, lb_if1 c1, ft_p1 c1]
        exact (pn_far hm (j := 1) (by decide)).bid
theorem st_labels : lb_st_labels rs_R := by
  intro σ x1 x2 h
  refine rs_go (f8 := fun σ => f_X8_labels x1 x2 σ) (f9 := fun σ => f_X9_labels x1 x2 σ) h (fun S hw => ?_)
  have hv := hw.1
  have e8 : ∀ σ, rs_C σ S → f_X8_labels x1 x2 σ = f_X8_labels_17 x1 x2 σ (-(nI (ft_p S x1))) (-(nI (ft_l x2 6))) := by
    intro σ hc
    unfold f_X8_labels
    rw [pc_isLabel, pc_potThere hc]
    by_cases c : ft_l x2 6 = 0
    · rw [lb_ifn c, c]; rfl
    · rw [lb_if1 c, ft_l1 c]; rfl
  by_cases hj : ft_f (ft_p S x1) (ft_l x2 6) = 0
  · obtain ⟨j1, j2⟩ := ft_f0 hj
    obtain ⟨t, ht, rfl⟩ := ft_p0 hv j1
    obtain ⟨x, hx, rfl⟩ := ft_l0 (m := 6) (by decide) j2
    have h8 : t < 8 := by have := hv.1; omega
    refine ⟨nI (S 3 t), av_st S 3 t x, hw.set (by omega), fun σ hc => ?_, fun σ hm => ?_⟩
    · try dsimp only
      rw [e8 σ hc, f_X8_labels_17, pc_first (ft_p7 _ _), hj, lb_letS, lb_if0, lb_ixN h8 (by decide), lb_chkT, lb_letS, lb_chkT, lb_letS, lb_cl (by omega), show σ 12 t = nI (S 3 t) from hc.1.r3 t h8]
      exact ⟨_, rfl, hc.set (a := 3) x (by decide) h8, fun k hk => lb_sto_o (by omega)⟩
    · try dsimp only
      unfold f_X9_labels
      rw [pn_isPot hm hv, pn_isIn0, lb_ifn j1, lb_ifn j2, show f_X9_ofT (nI t) (3 : Int32) = nI (3 + 6 * t + 3) from pm_oT t 3, lb_ixN (by omega) (by decide), lb_chkT, lb_letS, lb_chkT, lb_letS, lb_cl (by omega), hm.1.t3 t h8]
      exact ⟨_, rfl, hm.setT x (by decide) h8, fun k hk => lb_sto_o (by omega)⟩
  · refine rs_rg hw hj (fun σ hc => ?_) (fun σ hm => ?_)
    · try dsimp only
      rw [e8 σ hc, f_X8_labels_17, pc_first (ft_p7 _ _), lb_letS]
      exact pc_else hc hj (ft_f7 (ft_p7 _ _) (ft_l7 _ _))
    · try dsimp only
      unfold f_X9_labels f_X9_labels_18
      rw [pn_isPot hm hv, pn_isIn0]
      by_cases c1 : ft_p S x1 = 0
      · rw [ft_fz c1] at hj ⊢
        rw [lb_ifn c1, lb_if1 hj, ft_l1 hj]
        exact (pn_no1 hm).bid
      · rw [ft_fn c1, lb_if1 c1, ft_p1 c1]
        exact (pn_no1 hm).bid
theorem st_gives : lb_st_gives rs_R := by
  intro σ x1 x2 h
  refine rs_go (f8 := fun σ => f_X8_gives x1 x2 σ) (f9 := fun σ => f_X9_gives x1 x2 σ) h (fun S hw => ?_)
  have hv := hw.1
  by_cases hj : ft_f (ft_p S x1) (ft_q S x2) = 0
  · obtain ⟨j1, j2⟩ := ft_f0 hj
    obtain ⟨t, ht, rfl⟩ := ft_p0 hv j1
    obtain ⟨p, hp, rfl⟩ := ft_q0 hv j2
    have h8 : t < 8 := by have := hv.1; omega
    refine ⟨nI (S 5 t), av_st S 5 t p, hw.set (by omega), fun σ hc => ?_, fun σ hm => ?_⟩
    · try dsimp only
      unfold f_X8_gives
      rw [pc_potThere hc, pc_personThere hc, pc_first (ft_p7 _ _), hj, lb_letS, lb_if0, lb_ixN h8 (by decide), lb_chkT, lb_letS, lb_chkT, lb_letS, lb_cl (by omega), show σ 14 t = nI (S 5 t) from hc.1.r5 t h8]
      exact ⟨_, rfl, hc.set (a := 5) p (by decide) h8, fun k hk => lb_sto_o (by omega)⟩
    · try dsimp only
      unfold f_X9_gives
      rw [pn_isPot hm hv, pn_isPerson hm hv, lb_ifn j1, lb_ifn j2, show f_X9_ofT (nI t) (5 : Int32) = nI (3 + 6 * t + 5) from pm_oT t 5, lb_ixN (by omega) (by decide), lb_chkT, lb_letS, lb_chkT, lb_letS, lb_cl (by omega), hm.1.t5 t h8]
      exact ⟨_, rfl, hm.setT p (by decide) h8, fun k hk => lb_sto_o (by omega)⟩
  · refine rs_rg hw hj (fun σ hc => ?_) (fun σ hm => ?_)
    · try dsimp only
      unfold f_X8_gives
      rw [pc_potThere hc, pc_personThere hc, pc_first (ft_p7 _ _), lb_letS]
      exact pc_else hc hj (ft_f7 (ft_p7 _ _) (ft_q7 _ _))
    · try dsimp only
      unfold f_X9_gives f_X9_gives_16
      rw [pn_isPot hm hv, pn_isPerson hm hv]
      by_cases c1 : ft_p S x1 = 0
      · rw [ft_fz c1] at hj ⊢
        rw [lb_ifn c1, lb_if1 hj, ft_q1 hj]
        exact (pn_no1 hm).bid
      · rw [ft_fn c1, lb_if1 c1, ft_p1 c1]
        exact (pn_no1 hm).bid
theorem st_likes : lb_st_likes rs_R := by
  intro σ x1 x2 h
  refine rs_go (f8 := fun σ => f_X8_likes x1 x2 σ) (f9 := fun σ => f_X9_likes x1 x2 σ) h (fun S hw => ?_)
  have hv := hw.1
  have e8 : ∀ σ, rs_C σ S → f_X8_likes x1 x2 σ = f_X8_likes_17 x1 x2 σ (-(nI (ft_q S x1))) (-(nI (ft_l x2 5))) := by
    intro σ hc
    unfold f_X8_likes
    rw [pc_isSort, pc_personThere hc]
    by_cases c : ft_l x2 5 = 0
    · rw [lb_ifn c, c]; rfl
    · rw [lb_if1 c, ft_l1 c]; rfl
  by_cases hj : ft_f (ft_q S x1) (ft_l x2 5) = 0
  · obtain ⟨j1, j2⟩ := ft_f0 hj
    obtain ⟨t, ht, rfl⟩ := ft_q0 hv j1
    obtain ⟨x, hx, rfl⟩ := ft_l0 (m := 5) (by decide) j2
    have h8 : t < 5 := by have := hv.2.1; omega
    refine ⟨nI (S 6 t), av_st S 6 t x, hw.set (by omega), fun σ hc => ?_, fun σ hm => ?_⟩
    · try dsimp only
      rw [e8 σ hc, f_X8_likes_17, pc_first (ft_q7 _ _), hj, lb_letS, lb_if0, lb_ixN h8 (by decide), lb_chkT, lb_letS, lb_chkT, lb_letS, lb_cl (by omega), show σ 15 t = nI (S 6 t) from hc.1.r6 t h8]
      exact ⟨_, rfl, hc.set (a := 6) x (by decide) h8, fun k hk => lb_sto_o (by omega)⟩
    · try dsimp only
      unfold f_X9_likes
      rw [pn_isPerson hm hv, pn_isIn0, lb_ifn j1, lb_ifn j2, show f_X9_ofP (nI t) (0 : Int32) = nI (51 + 2 * t + 0) from pm_oP t 0, lb_ixN (by omega) (by decide), lb_chkT, lb_letS, lb_chkT, lb_letS, lb_cl (by omega), hm.1.p0 t h8]
      exact ⟨_, rfl, hm.setP (a := 0) x (by decide) h8, fun k hk => lb_sto_o (by omega)⟩
  · refine rs_rg hw hj (fun σ hc => ?_) (fun σ hm => ?_)
    · try dsimp only
      rw [e8 σ hc, f_X8_likes_17, pc_first (ft_q7 _ _), lb_letS]
      exact pc_else hc hj (ft_f7 (ft_q7 _ _) (ft_l7 _ _))
    · try dsimp only
      unfold f_X9_likes f_X9_likes_17
      rw [pn_isPerson hm hv, pn_isIn0]
      by_cases c1 : ft_q S x1 = 0
      · rw [ft_fz c1] at hj ⊢
        rw [lb_ifn c1, lb_if1 hj, ft_l1 hj]
        exact (pn_no1 hm).bid
      · rw [ft_fn c1, lb_if1 c1, ft_q1 c1]
        exact (pn_no1 hm).bid
theorem st_fills : lb_st_fills rs_R := by
  intro σ x1 x2 h
  refine rs_go (f8 := fun σ => f_X8_fills x1 x2 σ) (f9 := fun σ => f_X9_fills x1 x2 σ) h (fun S hw => ?_)
  have hv := hw.1
  have e9 : ∀ σ, rs_M σ S → f_X9_fills x1 x2 σ = f_X9_fills_19 x1 x2 σ (-(nI (ft_f (ft_p S x1) (ft_w x2 0 9)))) := by
    intro σ hm
    unfold f_X9_fills
    rw [pn_isPot hm hv, pn_wrongBy]
    by_cases c : ft_p S x1 = 0
    · rw [lb_ifn c, ft_fz c]
    · rw [lb_if1 c, ft_fn c, ft_p1 c]; rfl
  by_cases hj : ft_f (ft_p S x1) (ft_w x2 0 9) = 0
  · obtain ⟨j1, j2⟩ := ft_f0 hj
    obtain ⟨t, ht, rfl⟩ := ft_p0 hv j1
    obtain ⟨x, hx0, hx, rfl⟩ := ft_w0 (a := 0) (b := 9) (by decide) (by decide) j2
    have h8 : t < 8 := by have := hv.1; omega
    refine ⟨nI (S 4 t), av_st S 4 t x, hw.set (by omega), fun σ hc => ?_, fun σ hm => ?_⟩
    · try dsimp only
      unfold f_X8_fills
      rw [pc_potThere hc, pc_within, pc_first (ft_p7 _ _), hj, lb_letS, lb_if0, lb_ixN h8 (by decide), lb_chkT, lb_letS, lb_chkT, lb_letS, lb_cl (by omega), show σ 13 t = nI (S 4 t) from hc.1.r4 t h8]
      exact ⟨_, rfl, hc.set (a := 4) x (by decide) h8, fun k hk => lb_sto_o (by omega)⟩
    · try dsimp only
      rw [e9 σ hm, f_X9_fills_19, hj, lb_if0, show f_X9_ofT (nI t) (4 : Int32) = nI (3 + 6 * t + 4) from pm_oT t 4, lb_ixN (by omega) (by decide), lb_chkT, lb_letS, lb_chkT, lb_letS, lb_cl (by omega), hm.1.t4 t h8]
      exact ⟨_, rfl, hm.setT x (by decide) h8, fun k hk => lb_sto_o (by omega)⟩
  · refine rs_rg hw hj (fun σ hc => ?_) (fun σ hm => ?_)
    · try dsimp only
      unfold f_X8_fills
      rw [pc_potThere hc, pc_within, pc_first (ft_p7 _ _), lb_letS]
      exact pc_else hc hj (ft_f7 (ft_p7 _ _) (ft_w7 _ _ _))
    · try dsimp only
      rw [e9 σ hm, f_X9_fills_19]
      exact pn_else hm hj (ft_f7 (ft_p7 _ _) (ft_w7 _ _ _))
theorem st_turn : lb_st_turn rs_R := by
  intro σ x1 x2 x3 h
  refine rs_go (f8 := fun σ => f_X8_turn x1 x2 x3 σ) (f9 := fun σ => f_X9_turn x1 x2 x3 σ) h (fun S hw => ?_)
  have hv := hw.1
  have h7 : ft_f (ft_f (ft_p S x1) (ft_k x2 5)) (ft_w x3 0 9) < 7 := ft_f7 (ft_f7 (ft_p7 _ _) (ft_k7 _ _)) (ft_w7 _ _ _)
  have e8 : ∀ σ, rs_C σ S → f_X8_first_ (f_X8_potThere σ x1) (f_X8_known x2 (5 : Int32)) (f_X8_within x3 (0 : Int32) (9 : Int32)) = -(nI (ft_f (ft_f (ft_p S x1) (ft_k x2 5)) (ft_w x3 0 9))) := by
    intro σ hc
    unfold f_X8_first_
    rw [pc_potThere hc, pc_known, pc_within, pc_first (ft_p7 _ _), pc_first (ft_f7 (ft_p7 _ _) (ft_k7 _ _))]
  have e9 : ∀ σ, rs_M σ S → f_X9_turn x1 x2 x3 σ = f_X9_turn_33 x1 x2 x3 σ (-(nI (ft_f (ft_f (ft_p S x1) (ft_k x2 5)) (ft_w x3 0 9)))) := by
    intro σ hm
    unfold f_X9_turn
    rw [pn_isPot hm hv, pn_wrongBy, pn_isIn0]
    by_cases c : ft_p S x1 = 0
    · rw [lb_ifn c, ft_fz c]
      by_cases c2 : ft_l x2 5 = 0
      · rw [lb_ifn c2, ft_fz ((ft_kl _ _).mpr c2)]
      · have c3 : ¬ ft_k x2 5 = 0 := fun z => c2 ((ft_kl _ _).mp z)
        rw [lb_if1 c2, ft_fn c3, ft_k2 c3]; rfl
    · rw [lb_if1 c, ft_fn c, ft_fn c, ft_p1 c]; rfl
  by_cases hj : ft_f (ft_f (ft_p S x1) (ft_k x2 5)) (ft_w x3 0 9) = 0
  · obtain ⟨j1, j3⟩ := ft_f0 hj
    obtain ⟨j1, j2⟩ := ft_f0 j1
    obtain ⟨t, ht, rfl⟩ := ft_p0 hv j1
    obtain ⟨k, hk, rfl⟩ := ft_k0 (m := 5) (by decide) j2
    obtain ⟨f, hf0, hf, rfl⟩ := ft_w0 (a := 0) (b := 9) (by decide) (by decide) j3
    have h8 : t < 8 := by have := hv.1; omega
    have w1 := hw.set (a := 0) (i := t) (x := k) (by omega)
    refine ⟨nI (10 * S 0 t + S 1 t), av_st (av_st S 0 t k) 1 t f, w1.set (by omega), fun σ hc => ?_, fun σ hm => ?_⟩
    · try dsimp only
      unfold f_X8_turn
      rw [e8 σ hc, hj, lb_letS, lb_if0, lb_ixN h8 (by decide)]
      simp only [lb_chkT, lb_letS]
      rw [lb_cl (by omega), show σ 9 t = nI (S 0 t) from hc.1.r0 t h8, show σ 10 t = nI (S 1 t) from hc.1.r1 t h8, lb_k10, lb_ml1, lb_ad1]
      exact ⟨_, rfl, (hc.set (a := 0) k (by decide) h8).set (a := 1) f (by decide) h8, fun k hk => (lb_sto_o (by omega)).trans (lb_sto_o (by omega))⟩
    · try dsimp only
      rw [e9 σ hm, f_X9_turn_33, hj, lb_if0, show f_X9_ofT (nI t) (0 : Int32) = nI (3 + 6 * t + 0) from pm_oT t 0, show f_X9_ofT (nI t) (1 : Int32) = nI (3 + 6 * t + 1) from pm_oT t 1, lb_ixN (by omega) (by decide), lb_ixN (by omega) (by decide)]
      simp only [lb_chkT, lb_letS]
      rw [lb_cl (by omega), lb_cl (by omega), hm.1.t0 t h8, hm.1.t1 t h8, lb_k10, lb_ml1, lb_ad1]
      exact ⟨_, rfl, (hm.setT (a := 0) k (by decide) h8).setT (a := 1) f (by decide) h8, fun k hk => (lb_sto_o (by omega)).trans (lb_sto_o (by omega))⟩
  · refine rs_rg hw hj (fun σ hc => ?_) (fun σ hm => ?_)
    · try dsimp only
      unfold f_X8_turn
      rw [e8 σ hc, lb_letS]
      exact pc_else hc hj h7
    · try dsimp only
      rw [e9 σ hm, f_X9_turn_33]
      exact pn_else hm hj h7
