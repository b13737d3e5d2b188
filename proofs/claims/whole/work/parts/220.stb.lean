def lab_v (S : av_V) (t o m : Nat) (l : Nat) : Int32 := nI (av_ow (av_st S 3 t l) o m)
theorem st_label : lb_st_label rs_R := by
  intro σ x1 x2 h
  refine rs_go (f8 := fun σ => f_X8_label x1 x2 σ) (f9 := fun σ => f_X9_label x1 x2 σ) h (fun S hw => ?_)
  have hv := hw.1
  have hn := hv.1
  have hn1 := hv.2.1
  by_cases hj : ft_f (ft_p S x1) (ft_w x2 0 30) = 0
  · obtain ⟨hp, hq⟩ := ft_f0 hj
    obtain ⟨t, ht, rfl⟩ := ft_p0 hv hp
    obtain ⟨m, _, hm30, rfl⟩ := ft_w0 (a := 0) (b := 30) (by decide) (by decide) hq
    have h8 : t < 8 := by omega
    have ho1 : S 5 t < S 8 1 := hv.2.2.2.1 t ht
    have ho5 : S 5 t < 5 := by omega
    refine ⟨(bs (lab_v S t (S 5 t) m) nI (-1) 0 7).2, S, hw, fun σ hc => ?_, fun σ hm => ?_⟩
    · unfold f_X8_label
      rw [pc_two7 hc, hj, lb_letS, lb_if0, lb_ixN h8 (by decide), lb_chkT, lb_letS, lb_cl (by omega), show σ 14 t = nI (S 5 t) from hc.1.r5 t h8]
      obtain ⟨n, σ', hQ, e⟩ := lb_scan (fun n i b x σ => f_X8_label_46 n (nI t) (nI m) (nI (S 5 t)) x b (nI i) σ) (lab_v S t (S 5 t) m) nI (fun σ' => av_fr 17 σ σ') 7 lb_N (by decide) (-1) 0
        (fun n i b' x' σ' hi _ hQ => by
          have hc' := hc.fr0 hQ
          obtain ⟨s1, e1, h1, f1⟩ := pc_mind hc'
          have h2 := h1.set (a := 3) (t := t) i (by decide) h8
          obtain ⟨s3, e3, g3, f3⟩ := pc_own h2 (hv.set (by omega)) ho5 (show m ≤ 60 by omega)
          refine ⟨s3, hQ.tr ((f1.tr (av_fr.sto (by omega) (by omega))).tr f3), ?_⟩
          try dsimp only
          rw [f_X8_label_46, if_neg (by rw [lb_k6, lb_lt (by omega) (by omega)]; omega), e1, lb_bndS, lb_ixN h8 (by decide), lb_chkT, lb_letS, lb_cl (by omega), show lb_sto s1 28 t (nI i) = lb_sto s1 (17 + 8 + 3) t (nI i) from rfl, e3, lb_bndS, lb_ixN ho5 (by decide), lb_chkT, lb_chkT, lb_letS, lb_cl (by omega), g3, show nI i + 1 = nI (i + 1) from nI_1 _]
          rfl) σ (av_fr.rf _ _)
      try dsimp only at e
      rw [show f_X8_label_46 lb_N (nI t) (nI m) (nI (S 5 t)) (0 : Int32) (-1 : Int32) (0 : Int32) σ = f_X8_label_46 lb_N (nI t) (nI m) (nI (S 5 t)) (0 : Int32) (-1 : Int32) (nI 0) σ from rfl, e, f_X8_label_46, if_pos (by decide)]
      exact hc.fr hQ
    · unfold f_X9_label
      rw [pn_isPot hm hv, lb_ifn hp, pn_wrongBy, hq, f_X9_label_19, lb_if0]
      obtain ⟨n, σ', hQ, e⟩ := lb_scan (fun n i b x σ => f_X9_label_39 n (nI t) (nI m) x b (nI i) σ) (lab_v S t (S 5 t) m) nI (fun σ' => av_fk 55 σ σ') 7 lb_N (by decide) (-1) 0
        (fun n i b' x' σ' hi _ hQ => by
          have hm' := hm.fk0 hQ
          obtain ⟨s1, e1, h1, f1⟩ := pn_copy hm'
          have h2 := h1.setT (a := 3) (t := t) i (by decide) h8
          obtain ⟨s3, e3, g3, f3⟩ := pn_own h2 (hv.set (by omega)) (show S 5 t < av_st S 3 t i 8 1 by rw [av_st_a _ (by decide)]; exact ho1) (show m ≤ 60 by omega)
          have f4 := (f1.tr av_fk.sto).tr f3
          refine ⟨s3, hQ.tr f4, ?_⟩
          try dsimp only
          rw [f_X9_label_39, if_neg (by rw [lb_k6, lb_lt (by omega) (by omega)]; omega), e1, lb_bndS, show f_X9_ofT (nI t) (3 : Int32) = nI (3 + 6 * t + 3) from pm_oT t 3, show f_X9_ofT (nI t) (5 : Int32) = nI (3 + 6 * t + 5) from pm_oT t 5, lb_ixN (show 3 + 6 * t + 3 < 61 by omega) (by decide), lb_chkT, lb_letS, lb_cl (show 3 + 6 * t + 3 < 2147483648 by omega), e3, lb_bndS, lb_ixN (show 3 + 6 * t + 5 < 61 by omega) (by decide), lb_chkT, lb_cl (show 3 + 6 * t + 5 < 2147483648 by omega), (hm'.fk0 f4).1.t5 t h8, show f_X9_ofP (nI (S 5 t)) (1 : Int32) = nI (51 + 2 * S 5 t + 1) from pm_oP _ 1, lb_ixN (show 51 + 2 * S 5 t + 1 < 61 by omega) (by decide), lb_chkT, lb_letS, lb_cl (show 51 + 2 * S 5 t + 1 < 2147483648 by omega), g3, show nI i + 1 = nI (i + 1) from nI_1 _, lb_ltle]
          rfl) σ (av_fk.rf _ _)
      try dsimp only at e
      rw [show f_X9_label_39 lb_N (nI t) (nI m) (0 : Int32) (-1 : Int32) (0 : Int32) σ = f_X9_label_39 lb_N (nI t) (nI m) (0 : Int32) (-1 : Int32) (nI 0) σ from rfl, e, f_X9_label_39, if_pos (by decide)]
      exact hm.fk hQ
  · refine rs_rg hw hj (fun σ hc => ?_) (fun σ hm => ?_)
    · try dsimp only
      unfold f_X8_label
      rw [pc_two7 hc, lb_letS]
      exact pc_else hc hj (ft_f7 (ft_p7 _ _) (ft_w7 _ _ _))
    · try dsimp only
      unfold f_X9_label
      rw [pn_isPot hm hv]
      by_cases hp : ft_p S x1 = 0
      · rw [ft_fz hp] at hj ⊢
        rw [lb_ifn hp, pn_wrongBy, f_X9_label_19]
        exact pn_else hm hj (ft_w7 _ _ _)
      · rw [ft_fn hp, lb_if1 hp, f_X9_label_19, ft_p1 hp]
        exact pn_else hm (j := 1) (by decide) (by decide)
def wrn_v (S : av_V) (p m : Nat) (t : Nat) : Int32 := if S 5 t = p then nI (av_ow (av_st S 4 t 0) p m) else nI (av_ow S p m)
theorem pc_without {σ : lb_Mem} {S : av_V} (hc : rs_C σ S) (hv : av_W S) {t m : Nat} (h8 : t < 8) (hm : m ≤ 60) : ∃ σ1, f_X8_ownersGraceWithout (nI t) (nI m) σ = some (nI (av_ow (av_st S 4 t 0) (S 5 t) m), σ1) ∧ av_fr 17 σ σ1 := by
  have h5 := (hv.2.2.1 t h8).2.2.2.2.2
  obtain ⟨s1, e1, h1, f1⟩ := pc_mind hc
  have h2 := h1.set (a := 4) (t := t) 0 (by decide) h8
  obtain ⟨s3, e3, g3, f3⟩ := pc_own h2 (hv.set (by omega)) h5 hm
  refine ⟨s3, ?_, (f1.tr (av_fr.sto (by omega) (by omega))).tr f3⟩
  unfold f_X8_ownersGraceWithout
  rw [lb_ixN h8 (by decide), lb_chkT, lb_letS, lb_cl (by omega), show σ 14 t = nI (S 5 t) from hc.1.r5 t h8, e1, lb_bndS, lb_chkT, lb_letS, show lb_sto s1 29 t (0 : Int32) = lb_sto s1 (17 + 8 + 4) t (nI 0) from rfl, e3, lb_bndS, lb_ixN h5 (by decide), lb_chkT, lb_cl (by omega), g3]
theorem pc_graceBehind {σ : lb_Mem} {S : av_V} (hc : rs_C σ S) (hv : av_W S) {p m : Nat} (h5 : p < 5) (hm : m ≤ 60) : ∃ σ1, f_X8_graceBehind (nI p) (nI m) σ = some (nI (av_ow S p m), σ1) ∧ av_fr 17 σ σ1 := by
  obtain ⟨s1, e1, h1, f1⟩ := pc_mind hc
  obtain ⟨s3, e3, g3, f3⟩ := pc_own h1 hv h5 hm
  refine ⟨s3, ?_, f1.tr f3⟩
  unfold f_X8_graceBehind
  rw [e1, lb_bndS, e3, lb_bndS, lb_ixN h5 (by decide), lb_chkT, lb_cl (by omega), g3]
theorem pn_takesOwn {σ : lb_Mem} {S : av_V} (hm : rs_M σ S) (hv : av_W S) {p m : Nat} (hp : p < S 8 1) (hm60 : m ≤ 60) : ∃ σ1, f_X9_takes (nI m) σ = some σ1 ∧ σ1 55 (51 + 2 * p + 1) = nI (av_ow S p m) ∧ av_fk 55 σ σ1 := by
  obtain ⟨s1, e1, h1, f1⟩ := pn_takes hm hv hm60
  refine ⟨s1, e1, ?_, f1⟩
  rw [h1.p1 p (by have := hv.2.1; omega), (av_ys_al hp m).2.2.2.1]
  rfl
theorem st_warn : lb_st_warn rs_R := by
  intro σ x1 x2 h
  refine rs_go (f8 := fun σ => f_X8_warn x1 x2 σ) (f9 := fun σ => f_X9_warn x1 x2 σ) h (fun S hw => ?_)
  have hv := hw.1
  have hn := hv.1
  have hn1 := hv.2.1
  by_cases hj : ft_f (ft_q S x1) (ft_w x2 0 30) = 0
  · obtain ⟨hp, hq⟩ := ft_f0 hj
    obtain ⟨p, hpn, rfl⟩ := ft_q0 hv hp
    obtain ⟨m, _, hm30, rfl⟩ := ft_w0 (a := 0) (b := 30) (by decide) (by decide) hq
    have h5 : p < 5 := by omega
    refine ⟨(bs (wrn_v S p m) nI (nI (av_ow S p m)) (-9) (S 8 0)).2, S, hw, fun σ hc => ?_, fun σ hm => ?_⟩
    · unfold f_X8_warn
      obtain ⟨s0, e0, f0⟩ := pc_graceBehind hc hv h5 (show m ≤ 60 by omega)
      rw [pc_tri7 hc, hj, lb_letS, lb_if0, e0, lb_bndS]
      obtain ⟨n, σ', hQ, e⟩ := lb_scan (fun n i b x σ => f_X8_warn_41 n (nI p) (nI m) b x (nI i) σ) (wrn_v S p m) nI (fun σ' => av_fr 17 σ σ') (S 8 0) lb_N (by rw [lb_N300]; omega) (nI (av_ow S p m)) (-9)
        (fun n i b' x' σ' hi hb hQ => by
          have hc' := hc.fr0 hQ
          have h8 : i < 8 := by omega
          have hbi := hv.2.2.1 i h8
          unfold wrn_v
          try dsimp only
          rw [f_X8_warn_41, hc'.1.np, if_neg (by rw [lb_le (by omega) (by omega)]; omega), lb_ixN h8 (by decide), lb_chkT, lb_cl (by omega), show σ' 14 i = nI (S 5 i) from hc'.1.r5 i h8, show nI i + 1 = nI (i + 1) from nI_1 _]
          by_cases c : S 5 i = p
          · obtain ⟨s1, e1, f1⟩ := pc_without hc' hv h8 (show m ≤ 60 by omega)
            refine ⟨s1, hQ.tr f1, ?_⟩
            rw [if_pos (show nI (S 5 i) = nI p by rw [c]), if_pos c, e1, lb_bndS, c]
          · refine ⟨σ', hQ, ?_⟩
            rw [if_neg (show ¬ nI (S 5 i) = nI p by rw [lb_eq (by omega) (by omega)]; exact c), if_neg c, if_pos hb]) s0 f0
      try dsimp only at e
      rw [show f_X8_warn_41 lb_N (nI p) (nI m) (nI (av_ow S p m)) (-9 : Int32) (0 : Int32) s0 = f_X8_warn_41 lb_N (nI p) (nI m) (nI (av_ow S p m)) (-9 : Int32) (nI 0) s0 from rfl, e, f_X8_warn_41, (hc.fr0 hQ).1.np, if_pos (by rw [lb_le (by omega) (by omega)]; omega)]
      exact hc.fr hQ
    · unfold f_X9_warn
      obtain ⟨s0, e0, g0, f0⟩ := pn_takesOwn hm hv hpn (show m ≤ 60 by omega)
      rw [pn_isPerson hm hv, lb_ifn hp, pn_wrongBy, hq, f_X9_warn_19, lb_if0, e0, lb_bndS, show f_X9_ofP (nI p) (1 : Int32) = nI (51 + 2 * p + 1) from pm_oP _ 1, lb_ixN (show 51 + 2 * p + 1 < 61 by omega) (by decide), lb_chkT, lb_letS, lb_cl (by omega), g0]
      obtain ⟨n, σ', hQ, e⟩ := lb_scan (fun n i b x σ => f_X9_warn_54 n (nI p) (nI m) b x (nI i) σ) (wrn_v S p m) nI (fun σ' => av_fk 55 σ σ') (S 8 0) lb_N (by rw [lb_N300]; omega) (nI (av_ow S p m)) (-9)
        (fun n i b' x' σ' hi hb hQ => by
          have hm' := hm.fk0 hQ
          have h8 : i < 8 := by omega
          have hbi := hv.2.2.1 i h8
          unfold wrn_v
          try dsimp only
          rw [f_X9_warn_54, show (0 : Int32).toNatClampNeg = 0 from rfl, hm'.1.np, if_neg (by rw [lb_le (by omega) (by omega)]; omega), show f_X9_ofT (nI i) (5 : Int32) = nI (3 + 6 * i + 5) from pm_oT i 5, show f_X9_ofT (nI i) (4 : Int32) = nI (3 + 6 * i + 4) from pm_oT i 4, lb_ixN (show 3 + 6 * i + 5 < 61 by omega) (by decide), lb_chkT, lb_cl (show 3 + 6 * i + 5 < 2147483648 by omega), hm'.1.t5 i h8, show nI i + 1 = nI (i + 1) from nI_1 _]
          by_cases c : S 5 i = p
          · obtain ⟨s1, e1, h1, f1⟩ := pn_copy hm'
            have h2 := h1.setT (a := 4) (t := i) 0 (by decide) h8
            obtain ⟨s3, e3, g3, f3⟩ := pn_own h2 (hv.set (by omega)) (show p < av_st S 4 i 0 8 1 by rw [av_st_a _ (by decide)]; exact hpn) (show m ≤ 60 by omega)
            refine ⟨s3, hQ.tr ((f1.tr av_fk.sto).tr f3), ?_⟩
            rw [if_pos (show nI (S 5 i) = nI p by rw [c]), if_pos c, e1, lb_bndS, lb_ixN (show 3 + 6 * i + 4 < 61 by omega) (by decide), lb_chkT, lb_letS, lb_cl (show 3 + 6 * i + 4 < 2147483648 by omega), show lb_sto s1 55 (3 + 6 * i + 4) (0 : Int32) = lb_sto s1 55 (3 + 6 * i + 4) (nI 0) from rfl, e3, lb_bndS, show f_X9_ofP (nI p) (1 : Int32) = nI (51 + 2 * p + 1) from pm_oP _ 1, lb_ixN (show 51 + 2 * p + 1 < 61 by omega) (by decide), lb_chkT, lb_chkT, lb_letS, lb_cl (show 51 + 2 * p + 1 < 2147483648 by omega), g3, lb_ltle]
          · refine ⟨σ', hQ, ?_⟩
            rw [if_neg (show ¬ nI (S 5 i) = nI p by rw [lb_eq (by omega) (by omega)]; exact c), if_neg c, if_pos hb]) s0 f0
      try dsimp only at e
      rw [show f_X9_warn_54 lb_N (nI p) (nI m) (nI (av_ow S p m)) (-9 : Int32) (0 : Int32) s0 = f_X9_warn_54 lb_N (nI p) (nI m) (nI (av_ow S p m)) (-9 : Int32) (nI 0) s0 from rfl, e, f_X9_warn_54, show (0 : Int32).toNatClampNeg = 0 from rfl, (hm.fk0 hQ).1.np, if_pos (by rw [lb_le (by omega) (by omega)]; omega)]
      exact hm.fk hQ
  · refine rs_rg hw hj (fun σ hc => ?_) (fun σ hm => ?_)
    · try dsimp only
      unfold f_X8_warn
      rw [pc_tri7 hc, lb_letS]
      exact pc_else hc hj (ft_f7 (ft_q7 _ _) (ft_w7 _ _ _))
    · try dsimp only
      unfold f_X9_warn
      rw [pn_isPerson hm hv]
      by_cases hp : ft_q S x1 = 0
      · rw [ft_fz hp] at hj ⊢
        rw [lb_ifn hp, pn_wrongBy, f_X9_warn_19]
        exact pn_else hm hj (ft_w7 _ _ _)
      · rw [ft_fn hp, lb_if1 hp, f_X9_warn_19, ft_q1 hp]
        exact pn_else hm (j := 1) (by decide) (by decide)
