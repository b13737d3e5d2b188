theorem pc_fgIn {s : lb_Mem} {S : av_V} {y : Nat} (h : av_C 17 s (av_ys S y)) (hv : av_W S) (kc : Int32 → lb_Mem → Option (Int32 × lb_Mem)) : f_X8_firstGraceless_21 kc lb_N (nI y) (0 : Int32) s = lb_sum (fun p => some (nI p, s)) (fun _ => (f_X7_pass 17 (1 : Int32) s).bind (fun s57 => kc (nI (y + 1)) s57)) (gl_p S y) := by
  have hn1 := hv.2.1
  refine lb_loopE (fun n i (_ : Unit) => f_X8_firstGraceless_21 kc n (nI y) (nI i) s) (av_fi (av_zr (fun p => gl_w S p y))) _ _ (S 8 1) lb_N (by rw [lb_N300]; omega) (fun i b _ hb => av_fi_l hb) (fun n i a hi ha => ?_) (fun n a ha => ?_) () rfl
  · show f_X8_firstGraceless_21 kc (n + 1 + 1) _ _ _ = _
    have h5 : i < 5 := by omega
    have hb := (hv.ys y).2.2.2.2 i h5
    rw [f_X8_firstGraceless_21, h.nn, av_ys81, if_neg (by rw [lb_le (by omega) (by omega)]; omega), lb_ixN h5 (by decide), lb_chkT, lb_cl (by omega), show s 32 i = nI (av_ys S y 7 i) from h.r7 i h5, show nI i + 1 = nI (i + 1) from nI_1 i, av_fi_r ha]
    by_cases c : av_ys S y 7 i = 0
    · rw [if_pos (by rw [c]; rfl), if_pos (show av_zr (fun p => gl_w S p y) i = true from decide_eq_true c), lb_sum_l]
    · rw [if_neg (by rw [lb_k0, lb_eq (by omega) (by omega)]; exact c), if_neg (show ¬ av_zr (fun p => gl_w S p y) i = true from fun z => c (of_decide_eq_true z)), lb_sum_r]
  · show f_X8_firstGraceless_21 kc (n + 1) _ _ _ = _
    rw [f_X8_firstGraceless_21, h.nn, av_ys81, if_pos (by rw [lb_le (by omega) (by omega)]; omega), show nI y + 1 = nI (y + 1) from nI_1 y]
theorem pc_pass1 {s : lb_Mem} {S : av_V} {i : Nat} (h : av_C 17 s (av_ys S i)) (hv : av_W S) : ∃ σ1, f_X7_pass 17 (1 : Int32) s = some σ1 ∧ av_C 17 σ1 (av_ys S (i + 1)) ∧ av_fr 17 s σ1 := pv_pass h (hv.ys i) (show 1 ≤ 60 by decide)
theorem pc_firstGraceless {σ : lb_Mem} {S : av_V} (hc : rs_C σ S) (hv : av_W S) : ∃ σ1, f_X8_firstGraceless σ = some (gl_c S, σ1) ∧ av_fr 17 σ σ1 := by
  obtain ⟨s1, e1, h1, f1⟩ := pc_mind hc
  unfold f_X8_firstGraceless
  rw [e1, lb_bndS, lb_k0]
  unfold gl_c
  rcases lb_loopF (fun n (s : Int32 × lb_Mem) => f_X8_firstGraceless_13 n s.1 s.2) (fun i s => s.1 = nI i ∧ av_C 17 s.2 (av_ys S i) ∧ av_fr 17 σ s.2) (gl_o S) 61 lb_N (by decide)
    (fun n i s hi hI hP => by
      obtain ⟨x, σ'⟩ := s
      obtain ⟨i1, i2, i3⟩ := hI
      dsimp only at i1 i2 i3 ⊢
      subst i1
      obtain ⟨s2, e2, h2, f2⟩ := pc_pass1 i2 hv
      refine ⟨(nI (i + 1), s2), ⟨rfl, h2, i3.tr f2⟩, ?_⟩
      rw [f_X8_firstGraceless_13, if_neg (by rw [lb_k60, lb_lt (by omega) (by omega)]; omega), pc_fgIn i2 hv]
      unfold gl_o at hP
      cases hp : gl_p S i with
      | inl p => rw [hp] at hP; cases hP
      | inr u => rw [lb_sum_r, e2, lb_bndS]) (nI 0, s1) ⟨rfl, h1, f1⟩ with ⟨y, e0, hy, hP, n, s, ⟨i1, i2, i3⟩, e⟩ | ⟨e0, n, s, ⟨i1, i2, i3⟩, e⟩
  · obtain ⟨x, σ'⟩ := s
    dsimp only at i1 i2 i3 e
    subst i1
    refine ⟨σ', ?_, i3⟩
    rw [e0, lb_sum_l, e, f_X8_firstGraceless_13, if_neg (by rw [lb_k60, lb_lt (by omega) (by omega)]; omega), pc_fgIn i2 hv]
    unfold gl_o at hP
    cases hp : gl_p S y with
    | inl p => rw [lb_sum_l, lb_sum_l]
    | inr u => rw [hp] at hP; cases hP
  · obtain ⟨x, σ'⟩ := s
    dsimp only at i1 i2 i3 e
    subst i1
    refine ⟨σ', ?_, i3⟩
    rw [e0, lb_sum_r, e, f_X8_firstGraceless_13, if_pos (by decide)]
def gl_h : Option (Nat × Nat) → Int32
  | none => 1000000000
  | some a => nI a.2
theorem pn_firstGone {σ : lb_Mem} {S : av_V} (hm : rs_M σ S) (hv : av_W S) : ∃ σ1, f_X9_firstGone σ = some (gl_c S, σ1) ∧ av_fk 55 σ σ1 := by
  have hn1 := hv.2.1
  unfold f_X9_firstGone
  rw [lb_k0, gl_cm]
  obtain ⟨n, s, ⟨i0, i1, i2, i3⟩, e⟩ := lb_loopR (fun n (s : Int32 × Int32 × Int32 × lb_Mem) => f_X9_firstGone_8 n s.1 s.2.1 s.2.2.1 s.2.2.2) (fun i s => s.1 = gl_e (gl_m S i) ∧ s.2.1 = gl_h (gl_m S i) ∧ s.2.2.1 = nI i ∧ av_fk 55 σ s.2.2.2) (S 8 1) lb_N (by rw [lb_N300]; omega)
    (fun n i s hi hI => by
      obtain ⟨x1, x2, x3, σ'⟩ := s
      obtain ⟨i0, i1, i2, i3⟩ := hI
      dsimp only at i0 i1 i2 i3 ⊢
      subst i0 i1 i2
      have hm' := hm.fk0 i3
      have h5 : i < 5 := by omega
      obtain ⟨s1, e1, f1⟩ := pn_whenGone hm' hv (show 51 + 2 * i + 1 < 61 by omega) (gl_w S i) (fun y σ' h' => h'.p1 i h5) (fun y => ((hv.ys y).2.2.2.2 i h5).2)
      have e2 : lb_sum nI (fun _ => (-9 : Int32)) (av_fi (av_zr (gl_w S i)) 61) = lb_sum nI (fun _ => (-9 : Int32)) (gl_y S i) := rfl
      rw [e2] at e1
      rw [f_X9_firstGone_8, show (1 : Int32).toNatClampNeg = 1 from rfl, hm'.1.nn, if_neg (by rw [lb_le (by omega) (by omega)]; omega), show f_X9_ofP (nI i) (1 : Int32) = nI (51 + 2 * i + 1) from pm_oP i 1, e1, lb_bndS, show nI i + 1 = nI (i + 1) from nI_1 _, gl_m]
      cases hy : gl_y S i with
      | inr u =>
        rw [lb_sum_r, lb_sum_r, if_pos (show (-9 : Int32) < 0 by decide)]
        exact ⟨(_, _, _, _), ⟨rfl, rfl, rfl, i3.tr f1⟩, rfl⟩
      | inl y =>
        have h61 := gl_y61 hy
        rw [lb_sum_l, lb_sum_l, if_neg (nI_pos (by omega))]
        cases hq : gl_m S i with
        | none =>
          rw [if_pos (show nI y < gl_h none by show nI y < nI 1000000000; rw [lb_lt (by omega) (by decide)]; omega)]
          exact ⟨(_, _, _, _), ⟨rfl, rfl, rfl, i3.tr f1⟩, rfl⟩
        | some a =>
          have ha61 := gl_y61 (gl_m_s hq).2.1
          by_cases c : y < a.2
          · rw [if_pos (show nI y < gl_h (some a) by show nI y < nI a.2; rw [lb_lt (by omega) (by omega)]; omega)]
            dsimp only
            rw [if_pos c]
            exact ⟨(_, _, _, _), ⟨rfl, rfl, rfl, i3.tr f1⟩, rfl⟩
          · rw [if_neg (show ¬ nI y < gl_h (some a) by show ¬ nI y < nI a.2; rw [lb_lt (by omega) (by omega)]; omega)]
            dsimp only
            rw [if_neg c]
            exact ⟨(_, _, _, _), ⟨rfl, rfl, rfl, i3.tr f1⟩, rfl⟩) (-9, 1000000000, nI 0, σ) ⟨rfl, rfl, rfl, av_fk.rf _ _⟩
  obtain ⟨x1, x2, x3, σ'⟩ := s
  dsimp only at i0 i1 i2 i3 e
  subst i0 i1 i2
  refine ⟨σ', ?_, i3⟩
  rw [e, f_X9_firstGone_8, show (1 : Int32).toNatClampNeg = 1 from rfl, (hm.fk0 i3).1.nn, if_pos (by rw [lb_le (by omega) (by omega)]; omega)]
theorem st_graceless : lb_st_graceless rs_R := by
  intro σ x1 h
  refine rs_go (f8 := fun σ => f_X8_graceless x1 σ) (f9 := fun σ => f_X9_graceless x1 σ) h (fun S hw => ?_)
  have hv := hw.1
  have hn1 := hv.2.1
  by_cases hx : x1 = (-1 : Int32)
  · refine ⟨gl_c S, S, hw, fun σ hc => ?_, fun σ hm => ?_⟩
    · unfold f_X8_graceless
      obtain ⟨s1, e1, f1⟩ := pc_firstGraceless hc hv
      rw [if_pos hx, e1, lb_bndS]
      exact hc.fr f1
    · unfold f_X9_graceless
      obtain ⟨s1, e1, f1⟩ := pn_firstGone hm hv
      rw [if_pos hx, e1, lb_bndS]
      exact hm.fk f1
  by_cases hj : ft_q S x1 = 0
  · obtain ⟨p, hp, rfl⟩ := ft_q0 hv hj
    have h5 : p < 5 := by omega
    refine ⟨lb_sum nI (fun _ => (-9 : Int32)) (av_fi (av_zr (fun y => av_p S p y 7 p)) 61), S, hw, fun σ hc => ?_, fun σ hm => ?_⟩
    · unfold f_X8_graceless
      obtain ⟨s1, e1, h1, f1⟩ := pc_mind hc
      rw [if_neg hx, pc_personThere hc, hj, lb_letS, lb_if0, e1, lb_bndS, lb_k0]
      rcases lb_loopF (fun n (s : Int32 × lb_Mem) => f_X8_graceless_39 n (nI p) s.1 s.2) (fun i s => s.1 = nI i ∧ av_C 17 s.2 (av_p S p i) ∧ av_fr 17 σ s.2) (av_zr (fun y => av_p S p y 7 p)) 61 lb_N (by decide)
        (fun n i s hi hI hP => by
          obtain ⟨x, σ'⟩ := s
          obtain ⟨i1, i2, i3⟩ := hI
          dsimp only at i1 i2 i3 ⊢
          subst i1
          obtain ⟨s2, e2, h2, f2⟩ := pc_year1 i2 hv h5
          have hbi := (hv.p p i).2.2.2.2 p h5
          refine ⟨(nI (i + 1), s2), ⟨rfl, h2, i3.tr f2⟩, ?_⟩
          rw [f_X8_graceless_39, if_neg (by rw [lb_k60, lb_lt (by omega) (by omega)]; omega), lb_ixN h5 (by decide), lb_chkT, lb_cl (by omega), show σ' 32 p = nI (av_p S p i 7 p) from i2.r7 p h5, if_neg (by rw [lb_k0, lb_eq (by omega) (by omega)]; exact av_zr_f hP), e2, lb_bndS, show nI i + 1 = nI (i + 1) from nI_1 _]) (nI 0, s1) ⟨rfl, h1, f1⟩ with ⟨y, e0, hy, hP, n, s, ⟨i1, i2, i3⟩, e⟩ | ⟨e0, n, s, ⟨i1, i2, i3⟩, e⟩
      · obtain ⟨x, σ'⟩ := s
        dsimp only at i1 i2 i3 e
        subst i1
        rw [e0, lb_sum_l, e, f_X8_graceless_39, if_neg (by rw [lb_k60, lb_lt (by omega) (by omega)]; omega), lb_ixN h5 (by decide), lb_chkT, lb_cl (by omega), show σ' 32 p = nI (av_p S p y 7 p) from i2.r7 p h5, if_pos (show nI (av_p S p y 7 p) = 0 by rw [show av_p S p y 7 p = 0 from av_zr_t hP]; rfl)]
        exact hc.fr i3
      · obtain ⟨x, σ'⟩ := s
        dsimp only at i1 i2 i3 e
        subst i1
        rw [e0, lb_sum_r, e, f_X8_graceless_39, if_pos (by decide)]
        exact hc.fr i3
    · unfold f_X9_graceless
      obtain ⟨s1, e1, f1⟩ := pn_whenGone hm hv (show 51 + 2 * p + 1 < 61 by omega) (fun y => av_p S p y 7 p) (fun y σ' h' => by
        rw [h'.p1 p h5, (av_ys_al hp y).2.2.2.1]) (fun y => ((hv.p p y).2.2.2.2 p h5).2)
      rw [if_neg hx, pn_isPerson hm hv, lb_ifn hj, show f_X9_ofP (nI p) (1 : Int32) = nI (51 + 2 * p + 1) from pm_oP p 1, e1, lb_bndS]
      exact hm.fk f1
  · refine rs_rg hw hj (fun σ hc => ?_) (fun σ hm => ?_)
    · try dsimp only
      unfold f_X8_graceless
      rw [if_neg hx, pc_personThere hc, lb_letS]
      exact pc_else hc hj (ft_q7 _ _)
    · try dsimp only
      unfold f_X9_graceless
      rw [if_neg hx, pn_isPerson hm hv, lb_if1 hj, ft_q1 hj]
      exact (pn_no1 hm).bid
