theorem av_W.pq {V : av_V} (h : av_W V) (n : Nat) : ∀ q, av_W (av_pq V n q)
  | 0 => h
  | q + 1 => (av_W.pq h n q).p q n
theorem av_W.yr {V : av_V} (h : av_W V) (x : Nat) : av_W (av_st V 8 2 x) := by
  have e0 : av_st V 8 2 x 8 0 = V 8 0 := av_st_i _ (by decide) _ _ _
  have e1 : av_st V 8 2 x 8 1 = V 8 1 := av_st_i _ (by decide) _ _ _
  have ea : ∀ a i, a ≠ 8 → av_st V 8 2 x a i = V a i := fun a i ha => av_st_a _ ha _ _ _
  refine ⟨by rw [e0]; exact h.1, by rw [e1]; exact h.2.1, fun t ht => ?_, fun t ht => ?_, fun p hp => ?_⟩
  · rw [ea 0 t (by decide), ea 1 t (by decide), ea 2 t (by decide), ea 3 t (by decide), ea 4 t (by decide), ea 5 t (by decide)]; exact h.2.2.1 t ht
  · rw [ea 5 t (by decide), e1]; rw [e0] at ht; exact h.2.2.2.1 t ht
  · rw [ea 6 p (by decide), ea 7 p (by decide)]; exact h.2.2.2.2 p hp
theorem av_W.ys {V : av_V} (h : av_W V) (n : Nat) : av_W (av_ys V n) := by
  rw [← av_pa_ys]
  exact (h.pq n _).yr _
theorem pv_pass {b : Nat} {σ : lb_Mem} {V : av_V} (h : av_C b σ V) (hw : av_W V) {m : Nat} (hm : m ≤ 60) : ∃ σ', f_X7_pass b (nI m) σ = some σ' ∧ av_C b σ' (av_ys V m) ∧ av_fr b σ σ' := by
  have hn := hw.2.1
  obtain ⟨n, s, ⟨e1, h1, h2⟩, e⟩ := lb_loopR (fun n (s : Int32 × lb_Mem) => f_X7_pass_2 b n (nI m) s.1 s.2) (fun i s => s.1 = nI i ∧ av_C b s.2 (av_pq V m i) ∧ av_fr b σ s.2) (V 8 1) lb_N (by rw [lb_N300]; omega)
    (fun n i s hi hI => by
      obtain ⟨e1, h1, h2⟩ := hI
      obtain ⟨x, s⟩ := s
      dsimp only at e1 h1 h2
      subst e1
      obtain ⟨σ', a1, a2, a3⟩ := pv_passFor h1 (hw.pq m i) (show i < 5 by omega) hm
      refine ⟨(nI (i + 1), σ'), ⟨rfl, a2, h2.tr a3⟩, ?_⟩
      show f_X7_pass_2 b (n + 1) (nI m) (nI i) s = _
      rw [f_X7_pass_2, h1.nn, a1, av_pq_st _ _ _ _ (by decide) (by decide)]
      simp (disch := omega) only [lb_k0, lb_k1, lb_k2, lb_k3, lb_k4, lb_k5, lb_k6, lb_k7, lb_k8, lb_k9, lb_k10, lb_k11, lb_k12, lb_k13, lb_k14, lb_k15, lb_k16, lb_k19, lb_k20, lb_k30, lb_k31, lb_k48, lb_k51, lb_k55, lb_k59, lb_k60, lb_k61, lb_k63, lb_k96, lb_k98, lb_k99, lb_k100, lb_k102, lb_k103, lb_k104, lb_k106, lb_k107, lb_k108, lb_k112, lb_k115, lb_k116, lb_k121, lb_k255, lb_k256, lb_k999, lb_ixN, lb_chkT, lb_letS, lb_bndS, lb_cl, lb_le, lb_lt, lb_eq, lb_ad1, lb_sb1, lb_ml1]
      rw [if_neg (by omega)])
    (nI 0, σ) ⟨rfl, h, av_fr.rf b σ⟩
  obtain ⟨x, s⟩ := s
  dsimp only at e1 h1 h2 e
  subst e1
  refine ⟨lb_sto s b 11 (nI (V 8 2 + m)), ?_, ?_, h2.tr (av_fr.sto (by omega) (by omega))⟩
  · unfold f_X7_pass
    rw [show (0 : Int32) = nI 0 from rfl, e, f_X7_pass_2, h1.nn, av_pq_st _ _ _ _ (by decide) (by decide), if_pos (by rw [lb_le (by omega) (by omega)]; exact Nat.le_refl _), lb_letS, h1.yr, av_pq_st _ _ _ _ (by decide) (by decide), lb_ad1]
  · rw [← av_pa_ys]
    exact h1.set8 (j := 2) _ (by decide)
theorem pv_become {b0 b1 : Nat} {σ : lb_Mem} {V : av_V} (h : av_C b1 σ V) (hb : b0 + 16 ≤ b1 ∨ b1 + 16 ≤ b0) : ∃ σ', f_X7_become b0 b1 σ = some σ' ∧ av_C b0 σ' V ∧ av_fr b0 σ σ' := by
  unfold f_X7_become
  simp only [lb_letS]
  refine ⟨_, rfl, ⟨fun a t ha ht => ?_, fun j hj => ?_⟩, fun k hk => ?_⟩
  · have hs := h.1 a t ha ht
    rw [← hs]
    match a, ha, ht with
    | 0, _, ht => simp (disch := omega) only [Nat.add_zero, lb_sto_o, lb_cpy_o, lb_cpy_s]; exact sb_cpy0 ht
    | 1, _, ht => show lb_sto _ _ _ _ (b0 + 9) t = σ (b1 + 9) t; simp (disch := omega) only [lb_sto_o, lb_cpy_o, lb_cpy_s]; exact sb_cpy0 ht
    | 2, _, ht => show lb_sto _ _ _ _ (b0 + 10) t = σ (b1 + 10) t; simp (disch := omega) only [lb_sto_o, lb_cpy_o, lb_cpy_s]; exact sb_cpy0 ht
    | 3, _, ht => show lb_sto _ _ _ _ (b0 + 11) t = σ (b1 + 11) t; simp (disch := omega) only [lb_sto_o, lb_cpy_o, lb_cpy_s]; exact sb_cpy0 ht
    | 4, _, ht => show lb_sto _ _ _ _ (b0 + 12) t = σ (b1 + 12) t; simp (disch := omega) only [lb_sto_o, lb_cpy_o, lb_cpy_s]; exact sb_cpy0 ht
    | 5, _, ht => show lb_sto _ _ _ _ (b0 + 13) t = σ (b1 + 13) t; simp (disch := omega) only [lb_sto_o, lb_cpy_o, lb_cpy_s]; exact sb_cpy0 ht
    | 6, _, ht => show lb_sto _ _ _ _ (b0 + 14) t = σ (b1 + 14) t; simp (disch := omega) only [lb_sto_o, lb_cpy_o, lb_cpy_s]; exact sb_cpy0 ht
    | 7, _, ht => show lb_sto _ _ _ _ (b0 + 15) t = σ (b1 + 15) t; simp (disch := omega) only [lb_sto_o, lb_cpy_o, lb_cpy_s]; exact sb_cpy0 ht
    | a + 8, ha, _ => omega
  · have hs := h.2 j hj
    rw [← hs]
    match j, hj with
    | 0, _ => show lb_sto _ _ _ _ b0 9 = σ b1 9; simp (disch := omega) only [lb_sto_i, lb_sto_s, lb_sto_o, lb_cpy_o]
    | 1, _ => show lb_sto _ _ _ _ b0 10 = σ b1 10; simp (disch := omega) only [lb_sto_i, lb_sto_s, lb_sto_o, lb_cpy_o]
    | 2, _ => show lb_sto _ _ _ _ b0 11 = σ b1 11; simp (disch := omega) only [lb_sto_i, lb_sto_s, lb_sto_o, lb_cpy_o]
    | j + 3, hj => omega
  · simp (disch := omega) only [lb_sto_o, lb_cpy_o]
/-- labels one on -/
def av_lo (V : av_V) : Nat → av_V
  | 0 => V
  | n + 1 => if av_lo V n 3 n = 6 then av_lo V n else av_st (av_lo V n) 3 n ((av_lo V n 3 n + 1) % 6)
theorem av_lo_st (V : av_V) (a i : Nat) (h : a ≠ 3) : ∀ n, av_lo V n a i = V a i
  | 0 => rfl
  | n + 1 => by
    rw [av_lo]
    split
    · exact av_lo_st V a i h n
    · exact (av_st_a _ h _ _ _).trans (av_lo_st V a i h n)
theorem av_W.lo {V : av_V} (h : av_W V) : ∀ n, av_W (av_lo V n)
  | 0 => h
  | n + 1 => by
    rw [av_lo]
    split
    · exact av_W.lo h n
    · exact (av_W.lo h n).set (by omega)
theorem lb_rem6D : ∀ x, x < 6 → (nI x + nI 1) - (nI x + nI 1) / nI 6 * nI 6 = nI ((x + 1) % 6) := by decide +kernel
theorem pv_labelsOneOn {b : Nat} {σ : lb_Mem} {V : av_V} (h : av_C b σ V) (hw : av_W V) : ∃ σ', f_X7_labelsOneOn b σ = some σ' ∧ av_C b σ' (av_lo V (V 8 0)) ∧ av_fr b σ σ' := by
  have hn := hw.1
  obtain ⟨n, s, ⟨e1, h1, h2⟩, e⟩ := lb_loopR (fun n (s : Int32 × lb_Mem) => f_X7_labelsOneOn_2 b n s.1 s.2) (fun i s => s.1 = nI i ∧ av_C b s.2 (av_lo V i) ∧ av_fr b σ s.2) (V 8 0) lb_N (by rw [lb_N300]; omega)
    (fun n i s hi hI => by
      obtain ⟨e1, h1, h2⟩ := hI
      obtain ⟨x, s⟩ := s
      dsimp only at e1 h1 h2
      subst e1
      have hwi := (hw.lo i).2.2.1 i (by omega)
      show ∃ s' : Int32 × lb_Mem, (s'.1 = nI (i + 1) ∧ av_C b s'.2 (av_lo V (i + 1)) ∧ av_fr b σ s'.2) ∧ f_X7_labelsOneOn_2 b (n + 1) (nI i) s = f_X7_labelsOneOn_2 b n s'.1 s'.2
      rw [f_X7_labelsOneOn_2, h1.np, av_lo_st _ _ _ (by decide), lb_ixN (show i < 8 by omega) (by decide), lb_chkT, lb_chkT, lb_chkT, lb_letS, lb_cl (by omega), h1.r3 i (by omega), lb_k1, lb_k6, lb_ad1]
      rw [if_neg (by rw [lb_le (by omega) (by omega)]; omega), av_lo]
      by_cases c : av_lo V i 3 i = 6
      · rw [if_pos c, if_pos (by rw [c])]
        exact ⟨(nI (i + 1), s), ⟨rfl, h1, h2⟩, rfl⟩
      · rw [if_neg c, if_neg (by rw [lb_eq (by omega) (by omega)]; exact c), lb_rem6D _ (by omega)]
        exact ⟨(nI (i + 1), _), ⟨rfl, h1.set (a := 3) _ (by decide) (show i < 8 by omega), h2.tr (av_fr.sto (by omega) (by omega))⟩, rfl⟩)
    (nI 0, σ) ⟨rfl, h, av_fr.rf b σ⟩
  obtain ⟨x, s⟩ := s
  dsimp only at e1 h1 h2 e
  subst e1
  refine ⟨s, ?_, h1, h2⟩
  unfold f_X7_labelsOneOn
  rw [show (0 : Int32) = nI 0 from rfl, e, f_X7_labelsOneOn_2, h1.np, av_lo_st _ _ _ (by decide), if_pos (by rw [lb_le (by omega) (by omega)]; exact Nat.le_refl _)]
