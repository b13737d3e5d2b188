/-! loops that may leave early -/
def lb_sum {A B R : Type} (g : B → R) (e : A → R) : B ⊕ A → R
  | .inl b => g b
  | .inr a => e a
theorem lb_sum_l {A B R : Type} (g : B → R) (e : A → R) (b : B) : lb_sum g e (.inl b) = g b := rfl
theorem lb_sum_r {A B R : Type} (g : B → R) (e : A → R) (a : A) : lb_sum g e (.inr a) = e a := rfl
theorem lb_loopE {A B R : Type} (L : Nat → Nat → A → R) (T : Nat → B ⊕ A) (g : B → R) (e : A → R) (N M : Nat) (hM : N + 1 < M) (hl : ∀ i b, i < N → T i = .inl b → T (i + 1) = .inl b) (hs : ∀ n i a, i < N → T i = .inr a → L (n + 2) i a = lb_sum g (L (n + 1) (i + 1)) (T (i + 1))) (he : ∀ n a, T N = .inr a → L (n + 1) N a = e a) (a0 : A) (h0 : T 0 = .inr a0) : L M 0 a0 = lb_sum g e (T N) := by
  have kl : ∀ k i b, i + k = N → T i = .inl b → T N = .inl b := by
    intro k
    induction k with
    | zero => intro i b h1 h2; obtain rfl : i = N := by omega
              exact h2
    | succ k ih => intro i b h1 h2; exact ih (i + 1) b (by omega) (hl i b (by omega) h2)
  have key : ∀ k i n a, i + k = N → k + 1 < n → T i = .inr a → L n i a = lb_sum g e (T N) := by
    intro k
    induction k with
    | zero =>
      intro i n a h1 h2 h3
      obtain rfl : i = N := by omega
      obtain ⟨n, rfl⟩ : ∃ n', n = n' + 1 := ⟨n - 1, by omega⟩
      rw [he n a h3, h3, lb_sum_r]
    | succ k ih =>
      intro i n a h1 h2 h3
      obtain ⟨n, rfl⟩ : ∃ n', n = n' + 2 := ⟨n - 2, by omega⟩
      rw [hs n i a (by omega) h3]
      cases h4 : T (i + 1) with
      | inl b => rw [kl k (i + 1) b (by omega) h4, lb_sum_l, lb_sum_l]
      | inr a' => rw [lb_sum_r]; exact ih (i + 1) (n + 1) a' (by omega) (by omega) h4
  exact key N 0 M a0 (by omega) hM h0
/-- the first that is so -/
def av_fi (P : Nat → Bool) : Nat → Nat ⊕ Unit
  | 0 => .inr ()
  | n + 1 => match av_fi P n with
    | .inl t => .inl t
    | .inr _ => if P n = true then .inl n else .inr ()
theorem av_fi_l {P : Nat → Bool} {n t : Nat} (h : av_fi P n = .inl t) : av_fi P (n + 1) = .inl t := by rw [av_fi, h]
theorem av_fi_r {P : Nat → Bool} {n : Nat} {a : Unit} (h : av_fi P n = .inr a) : av_fi P (n + 1) = if P n = true then .inl n else .inr () := by rw [av_fi, h]
theorem pm_honestOnes {σ : lb_Mem} {V : av_V} (h : av_M 54 σ V) (hw : av_W V) : f_X9_honestOnes σ = some (nI (av_bt (fun t => decide (V 3 t = V 2 t)) id (V 8 0))) := by
  have hn := hw.1
  unfold f_X9_honestOnes
  refine lb_loop (fun n i => f_X9_honestOnes_4 σ n (nI (av_bt (fun t => decide (V 3 t = V 2 t)) id i)) (nI i)) (V 8 0) lb_N _ (by rw [lb_N300]; omega) (fun n i hi => ?_) (fun n => ?_)
  · show f_X9_honestOnes_4 σ (n + 1) _ _ = _
    have h7 := hw.2.2.1 i (by omega)
    rw [f_X9_honestOnes_4]
    simp (disch := omega) only [lb_k0, lb_k1, lb_k2, lb_k3, lb_k4, lb_k5, lb_k6, lb_k7, lb_k8, lb_k9, lb_k10, lb_k11, lb_k12, lb_k13, lb_k14, lb_k15, lb_k16, lb_k19, lb_k20, lb_k30, lb_k31, lb_k48, lb_k51, lb_k55, lb_k59, lb_k60, lb_k61, lb_k63, lb_k96, lb_k98, lb_k99, lb_k100, lb_k102, lb_k103, lb_k104, lb_k106, lb_k107, lb_k108, lb_k112, lb_k115, lb_k116, lb_k121, lb_k255, lb_k256, lb_k999, lb_ixN, lb_chkT, lb_letS, lb_bndS, lb_cl, lb_le, lb_lt, lb_eq, lb_ad1, lb_sb1, lb_ml1, pm_oT, h.t3, h.t2, h.np, lb_shl, lb_or1]
    rw [if_neg (by omega), av_bt]
    by_cases c : V 3 i = V 2 i
    · rw [if_pos c, if_pos (by simpa using c)]; rfl
    · rw [if_neg c, if_neg (by simpa using c), Nat.or_zero]
  · show f_X9_honestOnes_4 σ (n + 1) _ _ = _
    rw [f_X9_honestOnes_4]
    simp (disch := omega) only [lb_k0, lb_k1, lb_k2, lb_k3, lb_k4, lb_k5, lb_k6, lb_k7, lb_k8, lb_k9, lb_k10, lb_k11, lb_k12, lb_k13, lb_k14, lb_k15, lb_k16, lb_k19, lb_k20, lb_k30, lb_k31, lb_k48, lb_k51, lb_k55, lb_k59, lb_k60, lb_k61, lb_k63, lb_k96, lb_k98, lb_k99, lb_k100, lb_k102, lb_k103, lb_k104, lb_k106, lb_k107, lb_k108, lb_k112, lb_k115, lb_k116, lb_k121, lb_k255, lb_k256, lb_k999, lb_ixN, lb_chkT, lb_letS, lb_bndS, lb_cl, lb_le, lb_lt, lb_eq, lb_ad1, lb_sb1, lb_ml1, h.np]
    rw [if_pos (Nat.le_refl _)]
theorem pm_hopefulOnes {σ : lb_Mem} {V : av_V} (h : av_M 54 σ V) (hw : av_W V) : f_X9_hopefulOnes σ = some (nI (av_bt (fun t => decide (V 3 t = V 6 (V 5 t))) id (V 8 0))) := by
  have hn := hw.1
  unfold f_X9_hopefulOnes
  refine lb_loop (fun n i => f_X9_hopefulOnes_4 σ n (nI (av_bt (fun t => decide (V 3 t = V 6 (V 5 t))) id i)) (nI i)) (V 8 0) lb_N _ (by rw [lb_N300]; omega) (fun n i hi => ?_) (fun n => ?_)
  · show f_X9_hopefulOnes_4 σ (n + 1) _ _ = _
    have h7 := hw.2.2.1 i (by omega)
    have h6 := hw.2.2.2.2 (V 5 i) (by omega)
    rw [f_X9_hopefulOnes_4]
    simp (disch := omega) only [lb_k0, lb_k1, lb_k2, lb_k3, lb_k4, lb_k5, lb_k6, lb_k7, lb_k8, lb_k9, lb_k10, lb_k11, lb_k12, lb_k13, lb_k14, lb_k15, lb_k16, lb_k19, lb_k20, lb_k30, lb_k31, lb_k48, lb_k51, lb_k55, lb_k59, lb_k60, lb_k61, lb_k63, lb_k96, lb_k98, lb_k99, lb_k100, lb_k102, lb_k103, lb_k104, lb_k106, lb_k107, lb_k108, lb_k112, lb_k115, lb_k116, lb_k121, lb_k255, lb_k256, lb_k999, lb_ixN, lb_chkT, lb_letS, lb_bndS, lb_cl, lb_le, lb_lt, lb_eq, lb_ad1, lb_sb1, lb_ml1, pm_oT, pm_oP, h.t3, h.t5, h.p0, h.np, lb_shl, lb_or1]
    rw [if_neg (by omega), av_bt]
    by_cases c : V 3 i = V 6 (V 5 i)
    · rw [if_pos c, if_pos (by simpa using c)]; rfl
    · rw [if_neg c, if_neg (by simpa using c), Nat.or_zero]
  · show f_X9_hopefulOnes_4 σ (n + 1) _ _ = _
    rw [f_X9_hopefulOnes_4]
    simp (disch := omega) only [lb_k0, lb_k1, lb_k2, lb_k3, lb_k4, lb_k5, lb_k6, lb_k7, lb_k8, lb_k9, lb_k10, lb_k11, lb_k12, lb_k13, lb_k14, lb_k15, lb_k16, lb_k19, lb_k20, lb_k30, lb_k31, lb_k48, lb_k51, lb_k55, lb_k59, lb_k60, lb_k61, lb_k63, lb_k96, lb_k98, lb_k99, lb_k100, lb_k102, lb_k103, lb_k104, lb_k106, lb_k107, lb_k108, lb_k112, lb_k115, lb_k116, lb_k121, lb_k255, lb_k256, lb_k999, lb_ixN, lb_chkT, lb_letS, lb_bndS, lb_cl, lb_le, lb_lt, lb_eq, lb_ad1, lb_sb1, lb_ml1, h.np]
    rw [if_pos (Nat.le_refl _)]
theorem ft_kk {x : Int32} {m : Nat} (hm : m < 2147483648) (h : ¬ ft_k x (nI m) = 0) {a : Nat} (ha : a ≤ m) : ¬ x = nI a := by
  intro z
  subst z
  apply h
  unfold ft_k
  rw [if_neg]
  rintro (z | z)
  · rw [lb_k0, lb_lt (by omega) (by omega)] at z; omega
  · rw [lb_lt (by omega) (by omega)] at z; omega
theorem st_honest : lb_st_honest rs_R := by
  intro σ x1 h
  refine rs_go (f8 := fun σ => f_X8_honest x1 σ) (f9 := fun σ => f_X9_honest x1 σ) h (fun S hw => ?_)
  have hv := hw.1
  by_cases hj : ft_k x1 1 = 0
  · obtain ⟨a, ha, rfl⟩ := ft_k0 (m := 1) (by decide) hj
    refine ⟨if a = 0 then nI (av_bt (fun t => decide (S 3 t = S 2 t)) id (S 8 0)) else nI (av_bt (fun t => decide (S 3 t = S 6 (S 5 t))) id (S 8 0)), S, hw, fun σ hc => ?_, fun σ hm => ?_⟩
    · unfold f_X8_honest
      rw [pc_known, hj, lb_letS, lb_if0, pv_honestPots hc.1 hv, pv_hopefulPots hc.1 hv, lb_bndS, lb_bndS]
      by_cases c : a = 0
      · subst c; rw [if_pos (show nI 0 = 0 from rfl), if_pos rfl]; exact hc.same
      · rw [if_neg (by rw [lb_k0, lb_eq (by omega) (by omega)]; exact c), if_neg c]; exact hc.same
    · unfold f_X9_honest
      rw [pm_honestOnes hm.1 hv, pm_hopefulOnes hm.1 hv, lb_bndS, lb_bndS]
      by_cases c : a = 0
      · subst c; rw [if_pos (show nI 0 = 0 from rfl), if_pos rfl]; exact hm.same
      · obtain rfl : a = 1 := by omega
        rw [if_neg (show ¬ nI 1 = 0 from by decide), if_neg c, if_pos (show nI 1 = 1 from rfl)]; exact hm.same
  · refine rs_rg hw hj (fun σ hc => ?_) (fun σ hm => ?_)
    · try dsimp only
      unfold f_X8_honest
      rw [pc_known, lb_letS]
      exact pc_else hc hj (ft_k7 _ _)
    · try dsimp only
      unfold f_X9_honest
      rw [if_neg (show ¬ x1 = 0 from ft_kk (m := 1) (by decide) hj (a := 0) (by decide)), if_neg (show ¬ x1 = 1 from ft_kk (m := 1) (by decide) hj (a := 1) (by decide)), ft_k2 hj]
      exact (pn_no2 hm).bid
