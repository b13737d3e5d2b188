theorem av_st_comm (V : av_V) {a a' i i' x x' : Nat} (h : a ≠ a') : av_st (av_st V a i x) a' i' x' = av_st (av_st V a' i' x') a i x := by
  funext b j
  unfold av_st
  by_cases c1 : b = a ∧ j = i <;> by_cases c2 : b = a' ∧ j = i'
  · exact absurd (c1.1.symm.trans c2.1) h
  · rw [if_neg c2, if_pos c1, if_pos c1]
  · rw [if_pos c2, if_neg c1, if_pos c2]
  · rw [if_neg c2, if_neg c1, if_neg c1, if_neg c2]
theorem pm_holdD : ∀ g, g < 100 → ∀ z : Nat, z < 15 → f_X9_held (nI g + Int32.ofInt ((z : Int) - 10)) = nI (av_held ((g : Int) + ((z : Int) - 10))) := by decide +kernel
theorem pm_hold {g : Nat} {z : Int} (hg : g ≤ 99) (h1 : -10 ≤ z) (h2 : z ≤ 4) : f_X9_held (nI g + Int32.ofInt z) = nI (av_held ((g : Int) + z)) := by
  have h := pm_holdD g (by omega) (z + 10).toNat (by omega)
  rw [show (((z + 10).toNat : Nat) : Int) - 10 = z by omega] at h
  exact h
section MY
variable {k : Nat} {σ : lb_Mem} {V : av_V}
theorem pm_yearP (h : av_M k σ V) (hw : av_W V) {p : Nat} (hp : p < 5) (hpn : p < V 8 1) (n : Nat) : ∃ σ', av_M k σ' (av_y V p) ∧ av_fk k σ σ' ∧ f_X9_year_9 k (n + 1) (nI p) σ = f_X9_year_9 k n (nI (p + 1)) σ' := by
  have hn := hw.2.1
  have h7 := hw.2.2.2.2 p hp
  rw [f_X9_year_9, pm_opensIn h hw hp]
  rw [show f_X9_ofP (nI p) (1 : Int32) = nI (51 + 2 * p + 1) from pm_oP p 1, lb_ixN (by omega) (by decide), lb_bndS, lb_chkT, lb_cl (by omega), h.p1 p hp, show (1 : Int32).toNatClampNeg = 1 from rfl, h.nn, if_neg (by rw [lb_le (by omega) (by omega)]; omega)]
  unfold av_y
  cases ho : av_op V p (V 8 0) with
  | none =>
    dsimp only
    rw [av_enc_n, if_neg (by decide), f_X9_year_49, lb_ixN (by omega) (by decide), lb_chkT, lb_letS, if_pos (by decide), show (-1 : Int32) = Int32.ofInt (-1) from rfl, pm_hold (by omega) (by decide) (by decide), lb_cl (by omega), show nI p + 1 = nI (p + 1) from nI_1 p]
    exact ⟨_, h.setP (a := 1) _ (by decide) hp, av_fk.sto, rfl⟩
  | some t =>
    have ht := av_op_lt ho
    have h0 := hw.1
    have h8 : t < 8 := by omega
    have hf := av_op_own ho
    have h2 := hw.2.2.1 t h8
    obtain ⟨g1, g2⟩ := av_gn_in hw hp h8
    have hs := h.setP (a := 1) (p := p) (av_held ((V 7 p : Int) + av_gn V t p)) (by decide) hp
    dsimp only
    rw [av_enc_s, if_pos (nI_pos' (by omega)), pm_gains h hw hp h8, lb_bndS, f_X9_year_49, lb_ixN (by omega) (by decide), lb_chkT, lb_letS, if_neg (nI_pos (by omega)), pm_hold (by omega) g1 g2, lb_cl (by omega), show f_X9_ofT (nI t) (4 : Int32) = nI (3 + 6 * t + 4) from pm_oT t 4, lb_ixN (by omega) (by decide), lb_chkT, lb_chkT, lb_letS, lb_cl (by omega), hs.t4 t h8, show nI p + 1 = nI (p + 1) from nI_1 p, av_st_a _ (by decide), show (1 : Int32) = nI 1 from rfl, lb_sb1 (by omega), av_st_comm _ (by decide)]
    exact ⟨_, hs.setT (a := 4) _ (by decide) h8, av_fk.sto.tr av_fk.sto, rfl⟩
theorem av_W.yq (hw : av_W V) : ∀ q, av_W (av_yq V q)
  | 0 => hw.yr _
  | q + 1 => (av_W.yq hw q).y q
theorem pm_year (h : av_M k σ V) (hw : av_W V) : ∃ σ', f_X9_year k σ = some σ' ∧ av_M k σ' (av_ye V) ∧ av_fk k σ σ' := by
  have hn := hw.2.1
  have h0 := h.set8 (j := 2) (V 8 2 + 1) (by decide)
  obtain ⟨n, s, ⟨e1, h1, h2⟩, e⟩ := lb_loopR (fun n (s : Int32 × lb_Mem) => f_X9_year_9 k n s.1 s.2) (fun i s => s.1 = nI i ∧ av_M k s.2 (av_yq V i) ∧ av_fk k σ s.2) (V 8 1) lb_N (by rw [lb_N300]; omega)
    (fun n i s hi hI => by
      obtain ⟨e1, h1, h2⟩ := hI
      obtain ⟨x, s⟩ := s
      dsimp only at e1 h1 h2
      subst e1
      obtain ⟨σ', a1, a2, a3⟩ := pm_yearP h1 (hw.yq i) (show i < 5 by omega) (by rw [av_yq8, if_neg (by decide)]; exact hi) n
      exact ⟨(nI (i + 1), σ'), ⟨rfl, a1, h2.tr a2⟩, a3⟩)
    (nI 0, lb_sto σ k 2 (nI (V 8 2 + 1))) ⟨rfl, h0, av_fk.sto⟩
  obtain ⟨x, s⟩ := s
  dsimp only at e1 h1 h2 e
  subst e1
  refine ⟨s, ?_, h1, h2⟩
  unfold f_X9_year
  rw [lb_letS, show (2 : Int32).toNatClampNeg = 2 from rfl, h.yr, show nI (V 8 2) + 1 = nI (V 8 2 + 1) from nI_1 _, show (0 : Int32) = nI 0 from rfl, e, f_X9_year_9, show (1 : Int32).toNatClampNeg = 1 from rfl, h1.nn, av_yq8, show (if (1 : Nat) = 2 then V 8 2 + 1 else V 8 1) = V 8 1 from if_neg (by decide), if_pos (by rw [lb_le (by omega) (by omega)]; exact Nat.le_refl _)]
theorem pm_yearsOn (h : av_M k σ V) (hw : av_W V) {m : Nat} (hm : m ≤ 60) : ∃ σ', f_X9_yearsOn k (nI m) σ = some σ' ∧ av_M k σ' (av_ys V m) ∧ av_fk k σ σ' := by
  obtain ⟨n, s, ⟨e1, h1, h2⟩, e⟩ := lb_loopR (fun n (s : Int32 × lb_Mem) => f_X9_yearsOn_2 k n (nI m) s.1 s.2) (fun i s => s.1 = nI i ∧ av_M k s.2 (av_ys V i) ∧ av_fk k σ s.2) m lb_N (by rw [lb_N300]; omega)
    (fun n i s hi hI => by
      obtain ⟨e1, h1, h2⟩ := hI
      obtain ⟨x, s⟩ := s
      dsimp only at e1 h1 h2
      subst e1
      obtain ⟨σ', a1, a2, a3⟩ := pm_year h1 (hw.ys i)
      refine ⟨(nI (i + 1), σ'), ⟨rfl, a2, h2.tr a3⟩, ?_⟩
      show f_X9_yearsOn_2 k (n + 1) (nI m) (nI i) s = _
      rw [f_X9_yearsOn_2, a1, if_neg (by rw [lb_le (by omega) (by omega)]; omega), lb_bndS, show nI i + 1 = nI (i + 1) from nI_1 i])
    (nI 0, σ) ⟨rfl, h, av_fk.rf k σ⟩
  obtain ⟨x, s⟩ := s
  dsimp only at e1 h1 h2 e
  subst e1
  refine ⟨s, ?_, h1, h2⟩
  unfold f_X9_yearsOn
  rw [show (0 : Int32) = nI 0 from rfl, e, f_X9_yearsOn_2, if_pos (by rw [lb_le (by omega) (by omega)]; exact Nat.le_refl _)]
theorem pm_allGrace (h : av_M k σ V) (hw : av_W V) : f_X9_allGrace σ k = some (nI (av_sm (V 7) (V 8 1))) := by
  have hn := hw.2.1
  unfold f_X9_allGrace
  refine lb_loop (fun n i => f_X9_allGrace_4 σ k n (nI (av_sm (V 7) i)) (nI i)) (V 8 1) lb_N _ (by rw [lb_N300]; omega) (fun n i hi => ?_) (fun n => ?_)
  · show f_X9_allGrace_4 σ k (n + 1) _ _ = _
    rw [f_X9_allGrace_4]
    simp (disch := omega) only [lb_k0, lb_k1, lb_k2, lb_k3, lb_k4, lb_k5, lb_k6, lb_k7, lb_k8, lb_k9, lb_k10, lb_k11, lb_k12, lb_k13, lb_k14, lb_k15, lb_k16, lb_k19, lb_k20, lb_k30, lb_k31, lb_k48, lb_k51, lb_k55, lb_k59, lb_k60, lb_k61, lb_k63, lb_k96, lb_k98, lb_k99, lb_k100, lb_k102, lb_k103, lb_k104, lb_k106, lb_k107, lb_k108, lb_k112, lb_k115, lb_k116, lb_k121, lb_k255, lb_k256, lb_k999, lb_ixN, lb_chkT, lb_letS, lb_bndS, lb_cl, lb_le, lb_lt, lb_eq, lb_ad1, lb_sb1, lb_ml1, pm_oP, h.nn, h.p1]
    rw [if_neg (by omega)]; rfl
  · show f_X9_allGrace_4 σ k (n + 1) _ _ = _
    rw [f_X9_allGrace_4]
    simp (disch := omega) only [lb_k0, lb_k1, lb_k2, lb_k3, lb_k4, lb_k5, lb_k6, lb_k7, lb_k8, lb_k9, lb_k10, lb_k11, lb_k12, lb_k13, lb_k14, lb_k15, lb_k16, lb_k19, lb_k20, lb_k30, lb_k31, lb_k48, lb_k51, lb_k55, lb_k59, lb_k60, lb_k61, lb_k63, lb_k96, lb_k98, lb_k99, lb_k100, lb_k102, lb_k103, lb_k104, lb_k106, lb_k107, lb_k108, lb_k112, lb_k115, lb_k116, lb_k121, lb_k255, lb_k256, lb_k999, lb_ixN, lb_chkT, lb_letS, lb_bndS, lb_cl, lb_le, lb_lt, lb_eq, lb_ad1, lb_sb1, lb_ml1, h.nn]
    rw [if_pos (Nat.le_refl _)]
/-- a row copied -/
theorem pm_copies {k0 k1 : Nat} (hne : k0 ≠ k1) (σ : lb_Mem) : ∃ σ', f_X9_copies k0 k1 σ = some σ' ∧ (∀ i, i < 61 → σ' k1 i = σ k0 i) ∧ av_fk k1 σ σ' := by
  obtain ⟨n, s, ⟨e1, h1, h2⟩, e⟩ := lb_loopR (fun n (s : Int32 × lb_Mem) => f_X9_copies_2 k0 k1 n s.1 s.2) (fun i s => s.1 = nI i ∧ (∀ j, j < i → s.2 k1 j = σ k0 j) ∧ av_fk k1 σ s.2) 61 lb_N (by rw [lb_N300]; omega)
    (fun n i s hi hI => by
      obtain ⟨e1, h1, h2⟩ := hI
      obtain ⟨x, s⟩ := s
      dsimp only at e1 h1 h2
      subst e1
      refine ⟨(nI (i + 1), lb_sto s k1 i (s k0 i)), ⟨rfl, fun j hj => ?_, h2.tr av_fk.sto⟩, ?_⟩
      · by_cases ej : j = i
        · subst ej
          show lb_sto s k1 j _ k1 j = _
          rw [lb_sto_s, h2 k0 hne]
        · show lb_sto s k1 i _ k1 j = _
          rw [lb_sto_i ej]; exact h1 j (by omega)
      · show f_X9_copies_2 k0 k1 (n + 1) (nI i) s = _
        rw [f_X9_copies_2]
        simp (disch := omega) only [lb_k0, lb_k1, lb_k2, lb_k3, lb_k4, lb_k5, lb_k6, lb_k7, lb_k8, lb_k9, lb_k10, lb_k11, lb_k12, lb_k13, lb_k14, lb_k15, lb_k16, lb_k19, lb_k20, lb_k30, lb_k31, lb_k48, lb_k51, lb_k55, lb_k59, lb_k60, lb_k61, lb_k63, lb_k96, lb_k98, lb_k99, lb_k100, lb_k102, lb_k103, lb_k104, lb_k106, lb_k107, lb_k108, lb_k112, lb_k115, lb_k116, lb_k121, lb_k255, lb_k256, lb_k999, lb_ixN, lb_chkT, lb_letS, lb_bndS, lb_cl, lb_le, lb_lt, lb_eq, lb_ad1, lb_sb1, lb_ml1]
        rw [if_neg (by omega)])
    (nI 0, σ) ⟨rfl, fun j hj => absurd hj (by omega), av_fk.rf k1 σ⟩
  obtain ⟨x, s⟩ := s
  dsimp only at e1 h1 h2 e
  subst e1
  refine ⟨s, ?_, h1, h2⟩
  unfold f_X9_copies
  rw [show (0 : Int32) = nI 0 from rfl, e, f_X9_copies_2, if_pos (by decide)]
theorem av_M.copied {k0 k1 : Nat} {σ' : lb_Mem} (h : av_M k0 σ V) (e : ∀ i, i < 61 → σ' k1 i = σ k0 i) : av_M k1 σ' V := ⟨fun a t ha ht => by rw [e _ (by omega)]; exact h.1 a t ha ht, fun a p ha hp => by rw [e _ (by omega)]; exact h.2.1 a p ha hp, fun j hj => by rw [e _ (by omega)]; exact h.2.2 j hj⟩
end MY
