theorem gI_int {z : Int} (h1 : -1000000 ≤ z) (h2 : z ≤ 1000000) : (Int32.ofInt z).toInt = z := by
  rw [Int32.toInt_ofInt]
  exact Int.bmod_eq_of_le (by show -(4294967296 / 2 : Int) ≤ z; omega) (by show z < ((4294967296 + 1) / 2 : Int); omega)
theorem gI_le {a b : Int} (h1 : -1000000 ≤ a) (h2 : a ≤ 1000000) (h3 : -1000000 ≤ b) (h4 : b ≤ 1000000) : (Int32.ofInt a ≤ Int32.ofInt b) = (a ≤ b) := by
  rw [Int32.le_iff_toInt_le, gI_int h1 h2, gI_int h3 h4]
theorem gI_lt {a b : Int} (h1 : -1000000 ≤ a) (h2 : a ≤ 1000000) (h3 : -1000000 ≤ b) (h4 : b ≤ 1000000) : (Int32.ofInt a < Int32.ofInt b) = (a < b) := by
  rw [Int32.lt_iff_toInt_lt, gI_int h1 h2, gI_int h3 h4]
theorem gI_le0 {a : Int} (h1 : -1000000 ≤ a) (h2 : a ≤ 1000000) : (Int32.ofInt a ≤ (0 : Int32)) = (a ≤ 0) := by
  rw [show (0 : Int32) = Int32.ofInt 0 from rfl, gI_le h1 h2 (by decide) (by decide)]
theorem gI_lt1 {a : Int} (h1 : -1000000 ≤ a) (h2 : a ≤ 1000000) : (Int32.ofInt a < (1 : Int32)) = (a < 1) := by
  rw [show (1 : Int32) = Int32.ofInt 1 from rfl, gI_lt h1 h2 (by decide) (by decide)]
theorem pm_gainsOwner {σ : lb_Mem} {S : av_V} (h : av_M 54 σ S) (hv : av_W S) {t : Nat} (ht : t < 8) : f_X9_gainsOwner σ (nI t) = some (Int32.ofInt (av_gn S t (S 5 t))) := by
  have h5 := (hv.2.2.1 t ht).2.2.2.2.2
  unfold f_X9_gainsOwner
  rw [show f_X9_ofT (nI t) (5 : Int32) = nI (3 + 6 * t + 5) from pm_oT t 5, lb_ixN (by omega) (by decide), lb_chkT, lb_cl (by omega), h.t5 t ht, pm_gains h hv h5 ht, lb_bndS]
def av_tr (S : av_V) (p : Nat) (t : Nat) : Bool := decide ((S 5 t = p ∧ 0 < S 4 t) ∧ 0 < av_gn S t p)
theorem st_trust : lb_st_trust rs_R := by
  intro σ x1 h
  refine rs_go (f8 := fun σ => f_X8_trust x1 σ) (f9 := fun σ => f_X9_trust x1 σ) h (fun S hw => ?_)
  have hv := hw.1
  have hn := hv.1
  by_cases hj : ft_q S x1 = 0
  · obtain ⟨p, hp, rfl⟩ := ft_q0 hv hj
    have h5 : p < 5 := by have := hv.2.1; omega
    refine ⟨nI (av_ct (av_tr S p) (S 8 0)), S, hw, fun σ hc => ?_, fun σ hm => ?_⟩
    · unfold f_X8_trust
      rw [pc_personThere hc, hj, lb_letS, lb_if0]
      have e : f_X8_trust_21 lb_N (nI p) (0 : Int32) (0 : Int32) σ = some (nI (av_ct (av_tr S p) (S 8 0)), σ) := by
        refine lb_loop (fun n i => f_X8_trust_21 n (nI p) (nI (av_ct (av_tr S p) i)) (nI i) σ) (S 8 0) lb_N _ (by rw [lb_N300]; omega) (fun n i hi => ?_) (fun n => ?_)
        · have hi8 : i < 8 := by omega
          obtain ⟨g1, g2⟩ := av_gn_in hv h5 hi8
          show f_X8_trust_21 (n + 1) _ _ _ _ = _
          rw [f_X8_trust_21, hc.1.np, pv_canOpen hc.1 hv h5 hi8, pv_gained hc.1 hv h5 hi8, if_neg (by rw [lb_le (by omega) (by omega)]; omega), lb_bndS, lb_bndS, show nI i + 1 = nI (i + 1) from nI_1 i, av_ct]
          by_cases c1 : S 5 i = p ∧ 0 < S 4 i
          · rw [if_pos c1, if_neg (by decide)]
            by_cases c2 : av_gn S i p ≤ 0
            · rw [if_pos (by rw [gI_le0 (by omega) (by omega)]; exact c2), if_neg (by simp [av_tr]; omega)]
            · rw [if_neg (by rw [gI_le0 (by omega) (by omega)]; exact c2), if_pos (by simp only [av_tr, decide_eq_true_eq]; exact ⟨c1, by omega⟩), show nI (av_ct (av_tr S p) i) + 1 = _ from nI_1 _]
          · rw [if_neg c1, if_pos rfl, if_neg (by simp only [av_tr, decide_eq_true_eq]; exact fun z => c1 z.1)]
        · show f_X8_trust_21 (n + 1) _ _ _ _ = _
          rw [f_X8_trust_21, hc.1.np, if_pos (by rw [lb_le (by omega) (by omega)]; exact Nat.le_refl _)]
      rw [e]
      exact hc.same
    · unfold f_X9_trust
      rw [pn_isPerson hm hv, lb_ifn hj]
      have e : f_X9_trust_18 lb_N (nI p) (0 : Int32) (0 : Int32) σ = some (nI (av_ct (av_tr S p) (S 8 0)), σ) := by
        refine lb_loop (fun n i => f_X9_trust_18 n (nI p) (nI (av_ct (av_tr S p) i)) (nI i) σ) (S 8 0) lb_N _ (by rw [lb_N300]; omega) (fun n i hi => ?_) (fun n => ?_)
        · have hi8 : i < 8 := by omega
          have hb := hv.2.2.1 i hi8
          show f_X9_trust_18 (n + 1) _ _ _ _ = _
          rw [f_X9_trust_18, pm_gainsOwner hm.1 hv hi8]
          simp (disch := omega) only [lb_k0, lb_k1, lb_k2, lb_k3, lb_k4, lb_k5, lb_k6, lb_k7, lb_k8, lb_k9, lb_k10, lb_k11, lb_k12, lb_k13, lb_k14, lb_k15, lb_k16, lb_k19, lb_k20, lb_k30, lb_k31, lb_k48, lb_k51, lb_k55, lb_k59, lb_k60, lb_k61, lb_k63, lb_k96, lb_k98, lb_k99, lb_k100, lb_k102, lb_k103, lb_k104, lb_k106, lb_k107, lb_k108, lb_k112, lb_k115, lb_k116, lb_k121, lb_k255, lb_k256, lb_k999, lb_ixN, lb_chkT, lb_letS, lb_bndS, lb_cl, lb_le, lb_lt, lb_eq, lb_ad1, lb_sb1, lb_ml1, pm_oT, hm.1.t5, hm.1.t4, hm.1.np]
          rw [if_neg (by omega), av_ct]
          by_cases c1 : S 5 i = p
          · rw [if_pos c1, c1]
            by_cases c2 : S 4 i ≤ 0
            · rw [if_pos c2, if_neg (by simp [av_tr]; omega)]; rfl
            · obtain ⟨g1, g2⟩ := av_gn_in hv h5 hi8
              rw [if_neg c2]
              by_cases c3 : av_gn S i p < 1
              · rw [if_pos (show Int32.ofInt (av_gn S i p) < nI 1 from by rw [show nI 1 = (1 : Int32) from rfl, gI_lt1 (by omega) (by omega)]; exact c3), if_neg (by simp [av_tr]; omega)]; rfl
              · rw [if_neg (show ¬ Int32.ofInt (av_gn S i p) < nI 1 from by rw [show nI 1 = (1 : Int32) from rfl, gI_lt1 (by omega) (by omega)]; exact c3), if_pos (by simp only [av_tr, decide_eq_true_eq]; exact ⟨⟨c1, by omega⟩, by omega⟩)]
          · rw [if_neg c1, if_neg (by simp only [av_tr, decide_eq_true_eq]; exact fun z => c1 z.1.1)]; rfl
        · show f_X9_trust_18 (n + 1) _ _ _ _ = _
          rw [f_X9_trust_18]
          simp (disch := omega) only [lb_k0, lb_k1, lb_k2, lb_k3, lb_k4, lb_k5, lb_k6, lb_k7, lb_k8, lb_k9, lb_k10, lb_k11, lb_k12, lb_k13, lb_k14, lb_k15, lb_k16, lb_k19, lb_k20, lb_k30, lb_k31, lb_k48, lb_k51, lb_k55, lb_k59, lb_k60, lb_k61, lb_k63, lb_k96, lb_k98, lb_k99, lb_k100, lb_k102, lb_k103, lb_k104, lb_k106, lb_k107, lb_k108, lb_k112, lb_k115, lb_k116, lb_k121, lb_k255, lb_k256, lb_k999, lb_ixN, lb_chkT, lb_letS, lb_bndS, lb_cl, lb_le, lb_lt, lb_eq, lb_ad1, lb_sb1, lb_ml1, hm.1.np]
          rw [if_pos (Nat.le_refl _)]
      rw [e]
      exact hm.same
  · refine rs_rg hw hj (fun σ hc => ?_) (fun σ hm => ?_)
    · try dsimp only
      unfold f_X8_trust
      rw [pc_personThere hc, lb_letS]
      exact pc_else hc hj (ft_q7 _ _)
    · try dsimp only
      unfold f_X9_trust
      rw [pn_isPerson hm hv, lb_if1 hj, ft_q1 hj]
      exact (pn_no1 hm).bid
/-- the worst pot of the first n -/
def av_ws (S : av_V) : Nat → Option Nat
  | 0 => none
  | n + 1 => if S 4 n ≤ 0 then av_ws S n else match av_ws S n with
    | none => some n
    | some w => if av_gn S w (S 5 w) ≤ av_gn S n (S 5 n) then some w else some n
theorem av_ws_lt {S : av_V} : ∀ {n w : Nat}, av_ws S n = some w → w < n
  | 0, w, h => by cases h
  | n + 1, w, h => by
    rw [av_ws] at h
    split at h
    · have := av_ws_lt h; omega
    · cases ho : av_ws S n with
      | none => rw [ho] at h; cases h; omega
      | some u =>
        rw [ho] at h
        have := av_ws_lt ho
        dsimp only at h
        split at h <;> cases h <;> omega
def av_wg (S : av_V) : Option Nat → Int32
  | none => 0
  | some w => Int32.ofInt (av_gn S w (S 5 w))
theorem av_wg_n (S : av_V) : av_wg S none = 0 := rfl
theorem av_wg_s (S : av_V) (w : Nat) : av_wg S (some w) = Int32.ofInt (av_gn S w (S 5 w)) := rfl
theorem st_worst : lb_st_worst rs_R := by
  intro σ x1 h
  refine rs_go (f8 := fun σ => f_X8_worst x1 σ) (f9 := fun σ => f_X9_worst x1 σ) h (fun S hw => ?_)
  have hv := hw.1
  have hn := hv.1
  by_cases hj : ft_k x1 1 = 0
  · obtain ⟨a, ha, rfl⟩ := ft_k0 (m := 1) (by decide) hj
    refine ⟨if a = 0 then av_enc (av_ws S (S 8 0)) else av_wg S (av_ws S (S 8 0)), S, hw, fun σ hc => ?_, fun σ hm => ?_⟩
    · unfold f_X8_worst
      rw [pc_known, hj, lb_letS, lb_if0]
      have e : f_X8_worst_25 lb_N (nI a) (-9 : Int32) (0 : Int32) (0 : Int32) σ = some (if a = 0 then av_enc (av_ws S (S 8 0)) else av_wg S (av_ws S (S 8 0)), σ) := by
        refine lb_loop (fun n i => f_X8_worst_25 n (nI a) (av_enc (av_ws S i)) (av_wg S (av_ws S i)) (nI i) σ) (S 8 0) lb_N _ (by rw [lb_N300]; omega) (fun n i hi => ?_) (fun n => ?_)
        · have hi8 : i < 8 := by omega
          have hb := hv.2.2.1 i hi8
          have h5 := hb.2.2.2.2.2
          obtain ⟨g1, g2⟩ := av_gn_in hv h5 hi8
          show f_X8_worst_25 (n + 1) _ _ _ _ _ = _
          rw [f_X8_worst_25, hc.1.np, if_neg (by rw [lb_le (by omega) (by omega)]; omega), lb_ixN hi8 (by decide), lb_chkT, lb_chkT, lb_cl (by omega), show σ 13 i = nI (S 4 i) from hc.1.r4 i hi8, show σ 14 i = nI (S 5 i) from hc.1.r5 i hi8, pv_gained hc.1 hv h5 hi8, lb_bndS, show nI i + 1 = nI (i + 1) from nI_1 i, av_ws]
          by_cases c1 : S 4 i ≤ 0
          · rw [if_pos c1, if_pos (by rw [lb_k0, lb_le (by omega) (by omega)]; exact c1)]
          · rw [if_neg c1, if_neg (by rw [lb_k0, lb_le (by omega) (by omega)]; exact c1)]
            cases ho : av_ws S i with
            | none => dsimp only; rw [av_enc_n, if_pos rfl]; rfl
            | some w =>
              have hwi := av_ws_lt ho
              have h5w := (hv.2.2.1 w (by omega)).2.2.2.2.2
              obtain ⟨k1, k2⟩ := av_gn_in hv h5w (show w < 8 by omega)
              dsimp only
              rw [av_enc_s, av_wg_s, if_neg (lb_ne9 (show w < 8 by omega))]
              by_cases c2 : av_gn S w (S 5 w) ≤ av_gn S i (S 5 i)
              · rw [if_pos c2, if_pos (by rw [gI_le (by omega) (by omega) (by omega) (by omega)]; exact c2)]; rfl
              · rw [if_neg c2, if_neg (by rw [gI_le (by omega) (by omega) (by omega) (by omega)]; exact c2)]; rfl
        · show f_X8_worst_25 (n + 1) _ _ _ _ _ = _
          rw [f_X8_worst_25, hc.1.np, if_pos (by rw [lb_le (by omega) (by omega)]; exact Nat.le_refl _)]
          by_cases c : a = 0
          · subst c; rw [if_pos rfl, if_pos (show nI 0 = 0 from rfl)]
          · rw [if_neg c, if_neg (by rw [lb_k0, lb_eq (by omega) (by omega)]; exact c)]
      rw [e]
      exact hc.same
    · unfold f_X9_worst
      rw [pn_isIn0, lb_ifn ((ft_kl _ _).mp hj)]
      have e : f_X9_worst_21 lb_N (nI a) (-9 : Int32) (0 : Int32) σ = some (if a = 0 then av_enc (av_ws S (S 8 0)) else av_wg S (av_ws S (S 8 0)), σ) := by
        refine lb_loop (fun n i => f_X9_worst_21 n (nI a) (av_enc (av_ws S i)) (nI i) σ) (S 8 0) lb_N _ (by rw [lb_N300]; omega) (fun n i hi => ?_) (fun n => ?_)
        · have hi8 : i < 8 := by omega
          have hb := hv.2.2.1 i hi8
          have h5 := hb.2.2.2.2.2
          obtain ⟨g1, g2⟩ := av_gn_in hv h5 hi8
          show f_X9_worst_21 (n + 1) _ _ _ _ = _
          rw [f_X9_worst_21, show (0 : Int32).toNatClampNeg = 0 from rfl, hm.1.np, if_neg (by rw [lb_le (by omega) (by omega)]; omega), show f_X9_ofT (nI i) (4 : Int32) = nI (3 + 6 * i + 4) from pm_oT i 4, lb_ixN (by omega) (by decide), lb_chkT, lb_cl (by omega), hm.1.t4 i hi8, pm_gainsOwner hm.1 hv hi8, lb_bndS, show nI i + 1 = nI (i + 1) from nI_1 i, av_ws]
          by_cases c1 : S 4 i ≤ 0
          · rw [if_pos c1, if_pos (by rw [lb_k0, lb_le (by omega) (by omega)]; exact c1)]
          · rw [if_neg c1, if_neg (by rw [lb_k0, lb_le (by omega) (by omega)]; exact c1)]
            cases ho : av_ws S i with
            | none => dsimp only; rw [av_enc_n, if_pos (by decide)]; rfl
            | some w =>
              have hwi := av_ws_lt ho
              have h5w := (hv.2.2.1 w (by omega)).2.2.2.2.2
              obtain ⟨k1, k2⟩ := av_gn_in hv h5w (show w < 8 by omega)
              dsimp only
              rw [av_enc_s, if_neg (nI_pos (by omega)), pm_gainsOwner hm.1 hv (show w < 8 by omega), lb_bndS]
              by_cases c2 : av_gn S w (S 5 w) ≤ av_gn S i (S 5 i)
              · rw [if_pos c2, if_pos (by rw [gI_le (by omega) (by omega) (by omega) (by omega)]; exact c2)]; rfl
              · rw [if_neg c2, if_neg (by rw [gI_le (by omega) (by omega) (by omega) (by omega)]; exact c2)]; rfl
        · show f_X9_worst_21 (n + 1) _ _ _ _ = _
          rw [f_X9_worst_21, show (0 : Int32).toNatClampNeg = 0 from rfl, hm.1.np, if_pos (by rw [lb_le (by omega) (by omega)]; exact Nat.le_refl _)]
          by_cases c : a = 0
          · subst c; rw [if_pos rfl, if_pos (show nI 0 = 0 from rfl)]
          · rw [if_neg c, if_neg (by rw [lb_k0, lb_eq (by omega) (by omega)]; exact c)]
            cases ho : av_ws S (S 8 0) with
            | none => rw [av_enc_n, if_neg (by decide)]; rfl
            | some w =>
              have hwi := av_ws_lt ho
              rw [av_enc_s, if_pos (nI_pos' (by omega)), pm_gainsOwner hm.1 hv (show w < 8 by omega), lb_bndS]; rfl
      rw [e]
      exact hm.same
  · refine rs_rgF hw hj (fun σ hc => ?_) (fun σ hm => ?_)
    · try dsimp only
      unfold f_X8_worst
      rw [pc_known, lb_letS, lb_ifj hj (ft_k7 _ _)]
      exact (pc_far hc (ft_k7 _ _)).bid
    · try dsimp only
      unfold f_X9_worst
      rw [pn_isIn0, lb_if1 (fun z => hj ((ft_kl _ _).mpr z)), ft_k2 hj]
      exact (pn_far hm (j := 2) (by decide)).bid
