theorem lb_ne16D : ∀ t, t < 256 → ¬ nI t = (-9 : Int32) := by decide +kernel
theorem lb_ne16 {t : Nat} (h : t < 256) : ¬ nI t = (-9 : Int32) := lb_ne16D t h
theorem ft_pn {S : av_V} (hw : av_W S) {i : Nat} (hi : i < 2147483648) : ft_p S (nI i) = 0 ↔ i < S 8 0 := by
  have := hw.1
  unfold ft_p
  simp (disch := omega) only [lb_k0, lb_lt, lb_le]
  split <;> omega
theorem ft_qn {S : av_V} (hw : av_W S) {i : Nat} (hi : i < 2147483648) : ft_q S (nI i) = 0 ↔ i < S 8 1 := by
  have := hw.2.1
  unfold ft_q
  simp (disch := omega) only [lb_k0, lb_lt, lb_le]
  split <;> omega
def av_jg (S : av_V) (i : Nat) : Bool := decide (S 8 0 ≤ i ∨ ¬ S 3 i = S 11 i)
theorem pc_jj {σ : lb_Mem} {i : Nat} (hi : i < 16) (n : Nat) (x : Int32) : f_X8_judge_5 (n + 1) (nI i) x σ = f_X8_judge_56 (nI i) σ := by
  rw [f_X8_judge_5, if_neg (lb_ne16 (by omega))]
  split <;> rfl
theorem st_judge : lb_st_judge rs_R := by
  intro σ h
  refine rs_go (f8 := fun σ => f_X8_judge σ) (f9 := fun σ => f_X9_judge σ) h (fun S hw => ?_)
  have hv := hw.1
  have hn := hv.1
  have hr := hw.2.2.2.2.2.2.1
  have hr9 := hw.2.2.2.2.2.2.2.2
  refine ⟨lb_sum nI (fun _ => (-9 : Int32)) (av_fi (av_jg S) (S 9 2)), av_st S 9 2 0, hw.out (by omega), fun σ hc => ?_, fun σ hm => ?_⟩
  · have e : f_X8_judge σ = f_X8_judge_56 (lb_sum nI (fun _ => (-9 : Int32)) (av_fi (av_jg S) (S 9 2))) σ := by
      unfold f_X8_judge
      refine (lb_loopE (fun n i (_ : Unit) => f_X8_judge_5 n (-9 : Int32) (nI i) σ) (av_fi (av_jg S)) (fun t => f_X8_judge_56 (nI t) σ) (fun _ => f_X8_judge_56 (-9 : Int32) σ) (S 9 2) lb_N (by rw [lb_N300]; omega) (fun i b _ hb => av_fi_l hb) (fun n i a hi ha => ?_) (fun n a ha => ?_) () rfl).trans ?_
      · show f_X8_judge_5 (n + 1 + 1) _ _ _ = _
        have h16 : i < 16 := by omega
        have h3 := hr9 i
        rw [f_X8_judge_5, pc_jj h16, hc.2.2.2.2.1, if_neg (by rw [lb_le (by omega) (by omega)]; omega), if_pos rfl, pc_hasPot hc, av_fi_r ha]
        by_cases c : i < S 8 0
        · have h8 : i < 8 := by omega
          have hb := hv.2.2.1 i h8
          rw [lb_ifn ((ft_pn hv (by omega)).mpr c), lb_ixN h8 (by decide), lb_ixN h16 (by decide), lb_chkT, lb_chkT, lb_cl (by omega), show σ 12 i = nI (S 3 i) from hc.1.r3 i h8, hc.2.2.2.2.2.2.1 i h16, show nI i + 1 = nI (i + 1) from nI_1 i]
          by_cases c2 : S 3 i = S 11 i
          · rw [c2, if_pos rfl, if_neg (by simp [av_jg, c2]; omega), lb_sum_r]
          · rw [if_neg (by rw [lb_eq (by omega) (by omega)]; exact c2), if_pos (by simp [av_jg, c2]), lb_sum_l]
        · rw [lb_if1 (fun z => c ((ft_pn hv (by omega)).mp z)), if_pos (by simp [av_jg]; omega), lb_sum_l]
      · show f_X8_judge_5 (n + 1) _ _ _ = _
        rw [f_X8_judge_5, hc.2.2.2.2.1, if_pos (by rw [lb_le (by omega) (by omega)]; omega)]
      · cases av_fi (av_jg S) (S 9 2) <;> rfl
    rw [e]
    unfold f_X8_judge_56
    rw [lb_letS, lb_k0]
    exact ⟨_, rfl, hc.out (by omega), fun k hk => lb_sto_o (by omega)⟩
  · unfold f_X9_judge
    rw [lb_letS, lb_letS, hm.2.2.2.2.1, lb_k0]
    have hm2 : rs_M (lb_sto σ 53 9 (nI 0)) (av_st S 9 2 0) := hm.out (by omega)
    have hv2 : av_W (av_st S 9 2 0) := hv.far (by decide)
    have e : f_X9_judge_12 lb_N (nI (S 9 2)) (nI 0) (lb_sto σ 53 9 (nI 0)) = some (lb_sum nI (fun _ => (-9 : Int32)) (av_fi (av_jg S) (S 9 2)), lb_sto σ 53 9 (nI 0)) := by
      refine (lb_loopE (fun n i (_ : Unit) => f_X9_judge_12 n (nI (S 9 2)) (nI i) (lb_sto σ 53 9 (nI 0))) (av_fi (av_jg S)) (fun t => some (nI t, lb_sto σ 53 9 (nI 0))) (fun _ => some ((-9 : Int32), lb_sto σ 53 9 (nI 0))) (S 9 2) lb_N (by rw [lb_N300]; omega) (fun i b _ hb => av_fi_l hb) (fun n i a hi ha => ?_) (fun n a ha => ?_) () rfl).trans ?_
      · show f_X9_judge_12 (n + 1 + 1) _ _ _ = _
        have h16 : i < 16 := by omega
        have h3 := hr9 i
        rw [f_X9_judge_12, if_neg (by rw [lb_le (by omega) (by omega)]; omega), pn_isPot hm2 hv2, av_fi_r ha]
        by_cases c : i < S 8 0
        · have h8 : i < 8 := by omega
          have hb := hv.2.2.1 i h8
          rw [lb_ifn ((ft_pn hv2 (by omega)).mpr (by rw [av_st_a _ (by decide)]; exact c)), show f_X9_ofT (nI i) (3 : Int32) = nI (3 + 6 * i + 3) from pm_oT i 3, lb_ixN (show 3 + 6 * i + 3 < 61 by omega) (by decide), lb_ixN h16 (by decide), lb_chkT, lb_chkT, lb_cl (by omega), lb_cl (by omega), hm2.1.t3 i h8, hm2.2.2.2.2.2.2.1 i h16, show nI i + 1 = nI (i + 1) from nI_1 i, av_st_a _ (by decide), av_st_a _ (by decide)]
          by_cases c2 : S 3 i = S 11 i
          · rw [c2, if_pos rfl, if_neg (by simp [av_jg, c2]; omega), lb_sum_r]
          · rw [if_neg (by rw [lb_eq (by omega) (by omega)]; exact c2), if_pos (by simp [av_jg, c2]), lb_sum_l]
        · rw [lb_if1 (fun z => c (by have := (ft_pn hv2 (by omega)).mp z; rw [av_st_a _ (by decide)] at this; exact this)), if_pos (by simp [av_jg]; omega), lb_sum_l]
      · show f_X9_judge_12 (n + 1) _ _ _ = _
        rw [f_X9_judge_12, if_pos (by rw [lb_le (by omega) (by omega)]; omega)]
      · cases av_fi (av_jg S) (S 9 2) <;> rfl
    rw [e]
    exact ⟨_, rfl, hm2, fun k hk => lb_sto_o (by omega)⟩
theorem av_bt_lt {P : Nat → Bool} {g : Nat → Nat} {k : Nat} : ∀ n, (∀ t, t < n → g t < k) → av_bt P g n < 2 ^ k
  | 0, _ => Nat.two_pow_pos k
  | n + 1, h => by
    have ih := av_bt_lt n (P := P) (fun t ht => h t (by omega))
    rw [av_bt]
    split
    · exact Nat.or_lt_two_pow ih (Nat.pow_lt_pow_right (by decide) (h n (by omega)))
    · exact ih
theorem lb_bitsD : ∀ m, m < 256 → f_X9_bits (nI m) = some (f_J6_bitCount_0f7a4 (nI m)) := by decide +kernel
theorem pm_spoons {σ : lb_Mem} {V : av_V} (h : av_M 54 σ V) (hw : av_W V) : f_X9_count_89 σ lb_N (0 : Int32) (0 : Int32) = some (nI (av_sm (V 4) (V 8 0))) := by
  have hn := hw.1
  refine lb_loop (fun n i => f_X9_count_89 σ n (nI (av_sm (V 4) i)) (nI i)) (V 8 0) lb_N _ (by rw [lb_N300]; omega) (fun n i hi => ?_) (fun n => ?_)
  · show f_X9_count_89 σ (n + 1) _ _ = _
    rw [f_X9_count_89]
    simp (disch := omega) only [lb_k0, lb_k1, lb_k2, lb_k3, lb_k4, lb_k5, lb_k6, lb_k7, lb_k8, lb_k9, lb_k10, lb_k11, lb_k12, lb_k13, lb_k14, lb_k15, lb_k16, lb_k19, lb_k20, lb_k30, lb_k31, lb_k48, lb_k51, lb_k55, lb_k59, lb_k60, lb_k61, lb_k63, lb_k96, lb_k98, lb_k99, lb_k100, lb_k102, lb_k103, lb_k104, lb_k106, lb_k107, lb_k108, lb_k112, lb_k115, lb_k116, lb_k121, lb_k255, lb_k256, lb_k999, lb_ixN, lb_chkT, lb_letS, lb_bndS, lb_cl, lb_le, lb_lt, lb_eq, lb_ad1, lb_sb1, lb_ml1, pm_oT, h.t4, h.np]
    rw [if_neg (by omega)]
    rfl
  · show f_X9_count_89 σ (n + 1) _ _ = _
    rw [f_X9_count_89]
    simp (disch := omega) only [lb_k0, lb_k1, lb_k2, lb_k3, lb_k4, lb_k5, lb_k6, lb_k7, lb_k8, lb_k9, lb_k10, lb_k11, lb_k12, lb_k13, lb_k14, lb_k15, lb_k16, lb_k19, lb_k20, lb_k30, lb_k31, lb_k48, lb_k51, lb_k55, lb_k59, lb_k60, lb_k61, lb_k63, lb_k96, lb_k98, lb_k99, lb_k100, lb_k102, lb_k103, lb_k104, lb_k106, lb_k107, lb_k108, lb_k112, lb_k115, lb_k116, lb_k121, lb_k255, lb_k256, lb_k999, lb_ixN, lb_chkT, lb_letS, lb_bndS, lb_cl, lb_le, lb_lt, lb_eq, lb_ad1, lb_sb1, lb_ml1, h.np]
    rw [if_pos (Nat.le_refl _)]
theorem pm_count_in {σ : lb_Mem} {S : av_V} (hc : rs_C σ S) (hm : rs_M σ S) (hw : rs_W S) (x1 : Int32) : ∃ r, f_X8_count_22 σ x1 = some r ∧ (if x1 = 0 then lb_chk (lb_ix x1 61) (some (σ 54 x1.toNatClampNeg)) else if x1 = 1 then lb_chk (lb_ix x1 61) (some (σ 54 x1.toNatClampNeg)) else if x1 = 2 then lb_chk (lb_ix x1 61) (some (σ 54 x1.toNatClampNeg)) else if x1 = 3 then (f_X9_allGrace σ 54).bind (fun q83 => some q83) else if x1 = 4 then f_X9_count_89 σ lb_N (0 : Int32) (0 : Int32) else if x1 = 5 then (f_X9_honestOnes σ).bind (fun q121 => (f_X9_bits q121).bind (fun q124 => some q124)) else if x1 = 6 then some (σ 53 9) else if x1 = 7 then some (σ 53 8) else some (-9 : Int32)) = some r := by
  have hv := hw.1
  have hn := hv.1
  unfold f_X8_count_22
  by_cases c0 : x1 = 0
  · subst c0; rw [if_pos rfl, if_pos rfl]; exact ⟨nI (S 8 0), by rw [hc.1.np], by rw [show (0 : Int32) = nI 0 from rfl, lb_ixN (by decide) (by decide), lb_chkT, lb_cl (by decide), hm.1.np]⟩
  rw [if_neg c0, if_neg c0]
  by_cases c1 : x1 = 1
  · subst c1; rw [if_pos rfl, if_pos rfl]; exact ⟨nI (S 8 1), by rw [hc.1.nn], by rw [show (1 : Int32) = nI 1 from rfl, lb_ixN (by decide) (by decide), lb_chkT, lb_cl (by decide), hm.1.nn]⟩
  rw [if_neg c1, if_neg c1]
  by_cases c2 : x1 = 2
  · subst c2; rw [if_pos rfl, if_pos rfl]; exact ⟨nI (S 8 2), by rw [hc.1.yr], by rw [show (2 : Int32) = nI 2 from rfl, lb_ixN (by decide) (by decide), lb_chkT, lb_cl (by decide), hm.1.yr]⟩
  rw [if_neg c2, if_neg c2]
  by_cases c3 : x1 = 3
  · rw [if_pos c3, if_pos c3, pv_allGrace hc.1 hv, pm_allGrace hm.1 hv]; exact ⟨_, rfl, rfl⟩
  rw [if_neg c3, if_neg c3]
  by_cases c4 : x1 = 4
  · rw [if_pos c4, if_pos c4, pv_spoons hc.1 hv, pm_spoons hm.1 hv]; exact ⟨_, rfl, rfl⟩
  rw [if_neg c4, if_neg c4]
  by_cases c5 : x1 = 5
  · rw [if_pos c5, if_pos c5, pv_honestPots hc.1 hv, pm_honestOnes hm.1 hv, lb_bndS, lb_bndS, lb_bitsD _ (show _ < 2 ^ 8 from av_bt_lt _ (fun t ht => by show t < 8; omega))]; exact ⟨_, rfl, rfl⟩
  rw [if_neg c5, if_neg c5]
  by_cases c6 : x1 = 6
  · rw [if_pos c6, if_pos c6, hc.2.2.2.2.1, hm.2.2.2.2.1]; exact ⟨_, rfl, rfl⟩
  rw [if_neg c6, if_neg c6]
  by_cases c7 : x1 = 7
  · rw [if_pos c7, if_pos c7, hc.2.2.2.1, hm.2.2.2.1]; exact ⟨_, rfl, rfl⟩
  rw [if_neg c7, if_neg c7]
  exact ⟨_, rfl, rfl⟩
theorem st_count : lb_st_count rs_R := by
  rintro σ x1 ⟨S, hc, hm, hw⟩
  unfold f_X8_count f_X9_count f_X9_isIn
  by_cases a : x1 < 11
  · rw [if_pos a, if_pos a, if_pos rfl]
    exact pm_count_in hc hm hw x1
  rw [if_neg a, if_neg a]
  by_cases b : (16 : Int32) < x1
  · rw [if_pos b, if_pos b, if_pos rfl]
    exact pm_count_in hc hm hw x1
  rw [if_neg b, if_neg b, if_neg (show ¬ (1 : Int32) = 0 by decide)]
  obtain ⟨j, h1, h2, rfl⟩ : ∃ n, 11 ≤ n ∧ n ≤ 16 ∧ x1 = nI n := ft_w0 (a := 11) (b := 16) (by decide) (by decide) (by unfold ft_w; rw [if_neg (show ¬ x1 < nI 11 from a), if_neg (show ¬ nI 16 < x1 from b)])
  rw [show nI j - (10 : Int32) = nI (j - 10) from lb_sb1 (b := 10) (by omega), lb_ixN (by omega) (by decide), lb_chkT, lb_chkT, lb_cl (by omega), hc.2.2.2.2.2.2.2 _ (by omega), hm.2.2.2.2.2.2.2 _ (by omega)]
  exact ⟨_, rfl, rfl⟩
