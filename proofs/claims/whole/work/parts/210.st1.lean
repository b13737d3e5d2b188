theorem st_pot : lb_st_pot rs_R := by
  intro σ x1 x2 h
  refine rs_go (f8 := fun σ => f_X8_pot x1 x2 σ) (f9 := fun σ => f_X9_pot x1 x2 σ) h (fun S hw => ?_)
  have hv := hw.1
  by_cases hj : ft_f (ft_p S x1) (ft_k x2 5) = 0
  · obtain ⟨j1, j2⟩ := ft_f0 hj
    obtain ⟨t, ht, rfl⟩ := ft_p0 hv j1
    obtain ⟨a, ha, rfl⟩ := ft_k0 (m := 5) (by decide) j2
    have h8 : t < 8 := by have := hv.1; omega
    refine ⟨nI (S a t), S, hw, fun σ hc => ?_, fun σ hm => ?_⟩
    · try dsimp only
      unfold f_X8_pot
      rw [pc_potThere hc, pc_known, pc_first (ft_p7 _ _), hj, lb_letS, lb_if0, lb_ixN h8 (by decide)]
      simp (disch := omega) only [lb_k0, lb_k1, lb_k2, lb_k3, lb_k4, lb_k5, lb_k6, lb_k7, lb_k8, lb_k9, lb_k10, lb_k11, lb_k12, lb_k13, lb_k14, lb_k15, lb_k16, lb_k19, lb_k20, lb_k30, lb_k31, lb_k48, lb_k51, lb_k55, lb_k59, lb_k60, lb_k61, lb_k63, lb_k96, lb_k98, lb_k99, lb_k100, lb_k102, lb_k103, lb_k104, lb_k106, lb_k107, lb_k108, lb_k112, lb_k115, lb_k116, lb_k121, lb_k255, lb_k256, lb_k999, lb_ixN, lb_chkT, lb_letS, lb_bndS, lb_cl, lb_le, lb_lt, lb_eq, lb_ad1, lb_sb1, lb_ml1]
      have e0 := hc.1.r0 t h8
      have e1 := hc.1.r1 t h8
      have e2 := hc.1.r2 t h8
      have e3 := hc.1.r3 t h8
      have e4 := hc.1.r4 t h8
      have e5 := hc.1.r5 t h8
      rcases (show a = 0 ∨ a = 1 ∨ a = 2 ∨ a = 3 ∨ a = 4 ∨ a = 5 by omega) with rfl | rfl | rfl | rfl | rfl | rfl
      · rw [if_pos rfl, show σ 9 t = nI (S 0 t) from e0]; exact hc.same
      · rw [if_neg (by decide), if_pos rfl, show σ 10 t = nI (S 1 t) from e1]; exact hc.same
      · rw [if_neg (by decide), if_neg (by decide), if_pos rfl, show σ 11 t = nI (S 2 t) from e2]; exact hc.same
      · rw [if_neg (by decide), if_neg (by decide), if_neg (by decide), if_pos rfl, show σ 12 t = nI (S 3 t) from e3]; exact hc.same
      · rw [if_neg (by decide), if_neg (by decide), if_neg (by decide), if_neg (by decide), if_pos rfl, show σ 13 t = nI (S 4 t) from e4]; exact hc.same
      · rw [if_neg (by decide), if_neg (by decide), if_neg (by decide), if_neg (by decide), if_neg (by decide), show σ 14 t = nI (S 5 t) from e5]; exact hc.same
    · try dsimp only
      unfold f_X9_pot
      have j3 : ft_l (nI a) 5 = 0 := by unfold ft_l; rw [if_neg]; rw [lb_k5, lb_lt (by omega) (by omega)]; rintro (z | z); exact nI_pos (by omega) z; omega
      rw [pn_isPot hm hv, lb_ifn j1, pn_isIn0, lb_ifn j3, pm_oT, lb_ixN (by omega) (by decide), lb_chkT, lb_cl (by omega), hm.1.1 a t (by omega) h8]
      exact hm.same
  · refine rs_rg hw hj (fun σ hc => ?_) (fun σ hm => ?_)
    · try dsimp only
      unfold f_X8_pot
      rw [pc_potThere hc, pc_known, pc_first (ft_p7 _ _), lb_letS]
      exact pc_else hc hj (ft_f7 (ft_p7 _ _) (ft_k7 _ _))
    · try dsimp only
      unfold f_X9_pot
      rw [pn_isPot hm hv, pn_isIn0]
      by_cases c1 : ft_p S x1 = 0
      · have c2 : ¬ ft_l x2 5 = 0 := by
          intro z
          apply hj
          unfold ft_f ft_k
          unfold ft_l at z
          rw [if_pos c1]
          split at z
          · cases z
          · rename_i c; exact if_neg c
        have e : ft_f (ft_p S x1) (ft_k x2 5) = 2 := by
          unfold ft_f ft_k
          unfold ft_l at c2
          rw [if_pos c1]
          split at c2
          · rename_i c; exact if_pos c
          · exact absurd rfl c2
        rw [lb_ifn c1, lb_if1 c2, lb_bid, e]
        exact pn_no hm (j := 2) (by decide)
      · have e : ft_f (ft_p S x1) (ft_k x2 5) = 1 := by
          unfold ft_f
          rw [if_neg c1]
          unfold ft_p at c1 ⊢
          split
          · rfl
          · rename_i c; rw [if_neg c] at c1; exact absurd rfl c1
        rw [lb_if1 c1, lb_bid, e]
        exact pn_no hm (j := 1) (by decide)
