theorem lb_loopR2 {S R : Type} (L : Nat → S → R) (I : Nat → S → Prop) (N M : Nat) (hM : N + 1 < M) (hs : ∀ n i s, i < N → I i s → ∃ s', I (i + 1) s' ∧ L (n + 2) s = L (n + 1) s') (s0 : S) (h0 : I 0 s0) : ∃ n s, I N s ∧ L M s0 = L (n + 1) s := by
  obtain ⟨n, s, h1, h2⟩ := lb_loopR (fun n s => L (n + 1) s) I N (M - 1) (by omega) (fun n i s hi h => hs n i s hi h) s0 h0
  exact ⟨n + 1, s, h1, by rw [← h2, show M - 1 + 1 = M by omega]⟩
/-- the first of the greatest, by whole numbers -/
def av_xm (f : Nat → Int) : Nat → Nat
  | 0 => 0
  | n + 1 => if f n ≤ f (av_xm f n) then av_xm f n else n
theorem av_xm_le (f : Nat → Int) : ∀ n, av_xm f n ≤ n
  | 0 => Nat.le_refl _
  | n + 1 => by have := av_xm_le f n; rw [av_xm]; split <;> omega
theorem av_xm_lt (f : Nat → Int) : ∀ n, 0 < n → av_xm f n < n
  | 0, h => absurd h (by omega)
  | n + 1, _ => by have := av_xm_le f n; rw [av_xm]; split <;> omega
def av_wh (S : av_V) (t : Nat) : Nat := av_xm (fun p => av_gn S t p) (S 8 1)
theorem pc_who {σ : lb_Mem} {S : av_V} (hc : rs_C σ S) (hv : av_W S) {t : Nat} (ht : t < 8) (h0 : 0 < S 8 1) : f_X8_whoGainsMost σ (nI t) = some (nI (av_wh S t)) := by
  have hn := hv.2.1
  unfold f_X8_whoGainsMost
  rw [show f_X8_whoGainsMost_4 σ lb_N (nI t) (0 : Int32) (1 : Int32) = f_X8_whoGainsMost_4 σ lb_N (nI t) (nI (av_xm (fun p => av_gn S t p) (0 + 1))) (nI (0 + 1)) by rw [show av_xm (fun p => av_gn S t p) (0 + 1) = 0 from if_pos (Int.le_refl _)]; rfl]
  refine lb_loop (fun n i => f_X8_whoGainsMost_4 σ n (nI t) (nI (av_xm (fun p => av_gn S t p) (i + 1))) (nI (i + 1))) (S 8 1 - 1) lb_N _ (by rw [lb_N300]; omega) (fun n i hi => ?_) (fun n => ?_)
  · show f_X8_whoGainsMost_4 σ (n + 1) _ _ _ = _
    have hl := av_xm_lt (fun p => av_gn S t p) (i + 1) (by omega)
    obtain ⟨g1, g2⟩ := av_gn_in hv (show i + 1 < 5 by omega) ht
    obtain ⟨g3, g4⟩ := av_gn_in hv (show av_xm (fun p => av_gn S t p) (i + 1) < 5 by omega) ht
    rw [f_X8_whoGainsMost_4, hc.1.nn, if_neg (by rw [lb_le (by omega) (by omega)]; omega), pv_gained hc.1 hv (show i + 1 < 5 by omega) ht, pv_gained hc.1 hv (show av_xm (fun p => av_gn S t p) (i + 1) < 5 by omega) ht, lb_bndS, lb_bndS, show nI (i + 1) + 1 = nI (i + 1 + 1) from nI_1 _, show av_xm (fun p => av_gn S t p) (i + 1 + 1) = if av_gn S t (i + 1) ≤ av_gn S t (av_xm (fun p => av_gn S t p) (i + 1)) then av_xm (fun p => av_gn S t p) (i + 1) else i + 1 from rfl]
    by_cases c : av_gn S t (i + 1) ≤ av_gn S t (av_xm (fun p => av_gn S t p) (i + 1))
    · rw [if_pos c, if_pos (by rw [gI_le (by omega) (by omega) (by omega) (by omega)]; exact c)]
    · rw [if_neg c, if_neg (by rw [gI_le (by omega) (by omega) (by omega) (by omega)]; exact c)]
  · show f_X8_whoGainsMost_4 σ (n + 1) _ _ _ = _
    rw [f_X8_whoGainsMost_4, hc.1.nn, if_pos (by rw [lb_le (by omega) (by omega)]; omega), show S 8 1 - 1 + 1 = S 8 1 by omega]
    rfl
theorem pn_who {σ : lb_Mem} {S : av_V} (hm : rs_M σ S) (hv : av_W S) {t : Nat} (ht : t < 8) (h0 : 0 < S 8 1) : f_X9_dealtTo σ (nI t) = some (nI (av_wh S t)) := by
  have hn := hv.2.1
  unfold f_X9_dealtTo
  refine lb_loop (fun n i => f_X9_dealtTo_5 σ n (nI t) (if i = 0 then (-9 : Int32) else nI (av_xm (fun p => av_gn S t p) i)) (nI i)) (S 8 1) lb_N _ (by rw [lb_N300]; omega) (fun n i hi => ?_) (fun n => ?_)
  · show f_X9_dealtTo_5 σ (n + 1) _ _ _ = _
    rw [f_X9_dealtTo_5, show (1 : Int32).toNatClampNeg = 1 from rfl, hm.1.nn, if_neg (by rw [lb_le (by omega) (by omega)]; omega), show nI i + 1 = nI (i + 1) from nI_1 _, if_neg (show ¬ i + 1 = 0 by omega)]
    by_cases ci : i = 0
    · subst ci
      rw [if_pos rfl, if_pos (show (-9 : Int32) < 0 by decide)]
      show _ = f_X9_dealtTo_5 σ n (nI t) (nI (if av_gn S t 0 ≤ av_gn S t 0 then 0 else 0)) _
      rw [if_pos (Int.le_refl _)]
    · rw [if_neg ci]
      have hl := av_xm_lt (fun p => av_gn S t p) i (by omega)
      obtain ⟨g1, g2⟩ := av_gn_in hv (show i < 5 by omega) ht
      obtain ⟨g3, g4⟩ := av_gn_in hv (show av_xm (fun p => av_gn S t p) i < 5 by omega) ht
      rw [if_neg (nI_pos (by omega)), pm_gains hm.1 hv (show i < 5 by omega) ht, pm_gains hm.1 hv (show av_xm (fun p => av_gn S t p) i < 5 by omega) ht, lb_bndS, lb_bndS, show av_xm (fun p => av_gn S t p) (i + 1) = if av_gn S t i ≤ av_gn S t (av_xm (fun p => av_gn S t p) i) then av_xm (fun p => av_gn S t p) i else i from rfl]
      by_cases c : av_gn S t i ≤ av_gn S t (av_xm (fun p => av_gn S t p) i)
      · rw [if_pos c, if_pos (by rw [gI_le (by omega) (by omega) (by omega) (by omega)]; exact c)]
      · rw [if_neg c, if_neg (by rw [gI_le (by omega) (by omega) (by omega) (by omega)]; exact c)]
  · show f_X9_dealtTo_5 σ (n + 1) _ _ _ = _
    rw [f_X9_dealtTo_5, show (1 : Int32).toNatClampNeg = 1 from rfl, hm.1.nn, if_pos (by rw [lb_le (by omega) (by omega)]; omega), if_neg (show ¬ S 8 1 = 0 by omega)]
    rfl
def dl (S : av_V) (x : Int32) : Nat → Nat ⊕ (Nat × Int)
  | 0 => .inr (0, 0)
  | i + 1 => match dl S x i with
    | .inl w => .inl w
    | .inr (k, s) => if 5 ≤ k then .inr (k, s) else if S 4 i = 0 then .inr (k, s) else if nI k = x then .inl (av_wh S i) else .inr (k + 1, s + av_gn S i (av_wh S i))
theorem dl_l {S : av_V} {x : Int32} {i w : Nat} (h : dl S x i = .inl w) : dl S x (i + 1) = .inl w := by rw [dl, h]
theorem dl_r {S : av_V} {x : Int32} {i k : Nat} {s : Int} (h : dl S x i = .inr (k, s)) : dl S x (i + 1) = if 5 ≤ k then .inr (k, s) else if S 4 i = 0 then .inr (k, s) else if nI k = x then .inl (av_wh S i) else .inr (k + 1, s + av_gn S i (av_wh S i)) := by rw [dl, h]
theorem dl_k {S : av_V} {x : Int32} : ∀ {i k : Nat} {s : Int}, dl S x i = .inr (k, s) → k ≤ i
  | 0, k, s, h => by rw [dl] at h; cases h; exact Nat.le_refl _
  | i + 1, k, s, h => by
    cases ho : dl S x i with
    | inl w => rw [dl_l ho] at h; cases h
    | inr a =>
      obtain ⟨k', s'⟩ := a
      have := dl_k ho
      rw [dl_r ho] at h
      split at h
      · cases h; omega
      · split at h
        · cases h; omega
        · split at h
          · cases h
          · cases h; omega
theorem lb_m1 {x : Int32} (h : (-1 : Int32) ≤ x) : 0 ≤ x ↔ ¬ x = -1 := by
  have h1 : (-1 : Int) ≤ x.toInt := Int32.le_iff_toInt_le.mp h
  rw [Int32.le_iff_toInt_le]
  constructor
  · intro h2 h3; subst h3; exact absurd h2 (by decide)
  · intro h2
    have : ¬ x.toInt = (-1 : Int32).toInt := fun z => h2 (Int32.toInt_inj.mp z)
    show (0 : Int) ≤ x.toInt
    rw [show (-1 : Int32).toInt = -1 from rfl] at this
    omega
theorem pn_deal5 {σ : lb_Mem} {k : Nat} (hk : 5 ≤ k) (hk9 : k ≤ 9) (n : Nat) (x1 x3 x4 x5 : Int32) : f_X9_deal_23 (n + 1) x1 (nI k) x3 x4 x5 σ = f_X9_deal_101 x1 x3 x4 σ := by
  rw [f_X9_deal_23, if_pos (show (5 : Int32) ≤ nI k by rw [lb_k5, lb_le (by omega) (by omega)]; exact hk)]
  split <;> rfl
theorem pc_deal5 {σ : lb_Mem} {k : Nat} (hk : 5 ≤ k) (hk9 : k ≤ 9) (n : Nat) (x1 x2 x5 : Int32) : f_X8_deal_19 (n + 1) x1 x2 (nI k) x5 σ = f_X8_deal_88 x1 x2 σ := by
  rw [f_X8_deal_19, if_pos (show (5 : Int32) ≤ nI k by rw [lb_k5, lb_le (by omega) (by omega)]; exact hk)]
  split <;> rfl
theorem pn_dealS {σ : lb_Mem} {S : av_V} (hm : rs_M σ S) (hv : av_W S) {i k : Nat} (hi : i < S 8 0) (hk : ¬ 5 ≤ k) (n : Nat) (x1 y3 y4 : Int32) : f_X9_deal_23 (n + 1) x1 (nI k) y3 y4 (nI i) σ = if S 4 i = 0 then f_X9_deal_23 n x1 (nI k) y3 y4 (nI (i + 1)) σ else if nI k = x1 then f_X9_deal_23 n x1 (nI (k + 1)) (y3 + Int32.ofInt (av_gn S i (av_wh S i))) (nI (av_wh S i)) (nI (i + 1)) σ else f_X9_deal_23 n x1 (nI (k + 1)) (y3 + Int32.ofInt (av_gn S i (av_wh S i))) y4 (nI (i + 1)) σ := by
  have hn := hv.1
  have h8 : i < 8 := by omega
  have hb := hv.2.2.1 i h8
  have h0 : 0 < S 8 1 := by have := hv.2.2.2.1 i hi; omega
  have h5 : av_wh S i < 5 := by have := av_xm_lt (fun p => av_gn S i p) (S 8 1) h0; have := hv.2.1; unfold av_wh; omega
  rw [f_X9_deal_23, show (0 : Int32).toNatClampNeg = 0 from rfl, hm.1.np, if_neg (by rw [lb_le (by omega) (by omega)]; omega), if_neg (by rw [lb_k5, lb_le (by omega) (by omega)]; exact hk), show f_X9_ofT (nI i) (4 : Int32) = nI (3 + 6 * i + 4) from pm_oT i 4, lb_ixN (show 3 + 6 * i + 4 < 61 by omega) (by decide), lb_chkT, lb_cl (by omega), hm.1.t4 i h8, show nI i + 1 = nI (i + 1) from nI_1 _]
  by_cases c4 : S 4 i = 0
  · rw [if_pos c4, if_pos (by rw [c4]; rfl)]
  · rw [if_neg c4, if_neg (by rw [lb_k0, lb_eq (by omega) (by omega)]; exact c4), pn_who hm hv h8 h0, lb_bndS, pm_gains hm.1 hv h5 h8, lb_bndS, lb_letS, lb_bndS, show nI k + 1 = nI (k + 1) from nI_1 _]
def dl_I (S : av_V) (x1 : Int32) (i : Nat) (s : Int32 × Int32 × Int32 × Int32) : Prop := s.2.2.2 = nI i ∧ match dl S x1 i with
  | .inr (k, v) => s.1 = nI k ∧ s.2.1 = Int32.ofInt v ∧ s.2.2.1 = (-9 : Int32)
  | .inl w => s.2.2.1 = nI w ∧ ∃ m k, x1 = nI m ∧ s.1 = nI k ∧ k ≤ i ∧ m < k
theorem st_deal : lb_st_deal rs_R := by
  intro σ x1 h
  refine rs_go (f8 := fun σ => f_X8_deal x1 σ) (f9 := fun σ => f_X9_deal x1 σ) h (fun S hw => ?_)
  have hv := hw.1
  have hn := hv.1
  by_cases hx : (-1 : Int32) ≤ x1
  · refine ⟨lb_sum nI (fun a => if x1 = -1 then Int32.ofInt a.2 else (-9 : Int32)) (dl S x1 (S 8 0)), S, hw, fun σ hc => ?_, fun σ hm => ?_⟩
    · unfold f_X8_deal
      rw [if_pos hx]
      have e : f_X8_deal_19 lb_N x1 (0 : Int32) (0 : Int32) (0 : Int32) σ = some (lb_sum nI (fun a => if x1 = -1 then Int32.ofInt a.2 else (-9 : Int32)) (dl S x1 (S 8 0)), σ) := by
        refine (lb_loopE (fun n i (a : Nat × Int) => f_X8_deal_19 n x1 (Int32.ofInt a.2) (nI a.1) (nI i) σ) (dl S x1) (fun t => some (nI t, σ)) (fun a => f_X8_deal_88 x1 (Int32.ofInt a.2) σ) (S 8 0) lb_N (by rw [lb_N300]; omega) (fun i b _ hb => dl_l hb) (fun n i a hi ha => ?_) (fun n a ha => ?_) (0, 0) rfl).trans ?_
        · obtain ⟨k, s⟩ := a
          have hk := dl_k ha
          have h8 : i < 8 := by omega
          have hb := hv.2.2.1 i h8
          have h0 : 0 < S 8 1 := by have := hv.2.2.2.1 i hi; omega
          have h5 : av_wh S i < 5 := by have := av_xm_lt (fun p => av_gn S i p) (S 8 1) h0; have := hv.2.1; unfold av_wh; omega
          show f_X8_deal_19 (n + 1 + 1) x1 (Int32.ofInt s) (nI k) (nI i) σ = _
          rw [dl_r ha]
          by_cases c5 : 5 ≤ k
          · rw [if_pos c5, lb_sum_r, pc_deal5 c5 (by omega)]
            show _ = f_X8_deal_19 (n + 1) x1 (Int32.ofInt s) (nI k) _ σ
            rw [pc_deal5 c5 (by omega)]
          · rw [if_neg c5, f_X8_deal_19, hc.1.np, if_neg (by rw [lb_le (by omega) (by omega)]; omega), if_neg (by rw [lb_k5, lb_le (by omega) (by omega)]; exact c5), lb_ixN h8 (by decide), lb_chkT, lb_cl (by omega), show σ 13 i = nI (S 4 i) from hc.1.r4 i h8, show nI i + 1 = nI (i + 1) from nI_1 _]
            by_cases c4 : S 4 i = 0
            · rw [if_pos c4, if_pos (by rw [lb_k0, lb_le (by omega) (by omega)]; omega), lb_sum_r]
            · rw [if_neg c4, if_neg (by rw [lb_k0, lb_le (by omega) (by omega)]; omega), pc_who hc hv h8 h0, lb_bndS]
              by_cases ck : nI k = x1
              · rw [if_pos ck, if_pos ck, lb_sum_l]
              · rw [if_neg ck, if_neg ck, pv_gained hc.1 hv h5 h8, lb_bndS, lb_letS, ← Int32.ofInt_add, show nI k + 1 = nI (k + 1) from nI_1 _, lb_sum_r]
        · show f_X8_deal_19 (n + 1) x1 (Int32.ofInt a.2) (nI a.1) _ σ = _
          rw [f_X8_deal_19, hc.1.np, if_pos (by rw [lb_le (by omega) (by omega)]; omega)]
        · cases dl S x1 (S 8 0) with
          | inl w => rfl
          | inr a => rw [lb_sum_r, lb_sum_r, f_X8_deal_88]; split <;> rfl
      rw [e]
      exact hc.same
    · unfold f_X9_deal
      rw [if_pos hx]
      obtain ⟨n, s, ⟨i1, i2⟩, e⟩ := lb_loopR2 (fun n (s : Int32 × Int32 × Int32 × Int32) => f_X9_deal_23 n x1 s.1 s.2.1 s.2.2.1 s.2.2.2 σ) (dl_I S x1) (S 8 0) lb_N (by rw [lb_N300]; omega)
        (fun n i s hi hI => by
          obtain ⟨y2, y3, y4, y5⟩ := s
          obtain ⟨i1, i2⟩ := hI
          dsimp only at i1 i2 ⊢
          subst i1
          have h8 : i < 8 := by omega
          have hb := hv.2.2.1 i h8
          have h0 : 0 < S 8 1 := by have := hv.2.2.2.1 i hi; omega
          have h5 : av_wh S i < 5 := by have := av_xm_lt (fun p => av_gn S i p) (S 8 1) h0; have := hv.2.1; unfold av_wh; omega
          cases ho : dl S x1 i with
          | inr a =>
            obtain ⟨k, v⟩ := a
            rw [ho] at i2
            obtain ⟨j1, j2, j3⟩ := i2
            subst j1 j2 j3
            have hk := dl_k ho
            unfold dl_I
            rw [dl_r ho]
            by_cases c5 : 5 ≤ k
            · rw [if_pos c5]
              exact ⟨(nI k, Int32.ofInt v, -9, nI (i + 1)), ⟨rfl, rfl, rfl, rfl⟩, by rw [pn_deal5 c5 (by omega), pn_deal5 c5 (by omega)]⟩
            · rw [if_neg c5, pn_dealS hm hv hi c5]
              by_cases c4 : S 4 i = 0
              · rw [if_pos c4, if_pos c4]
                exact ⟨(nI k, Int32.ofInt v, -9, nI (i + 1)), ⟨rfl, rfl, rfl, rfl⟩, rfl⟩
              · rw [if_neg c4, if_neg c4, ← Int32.ofInt_add]
                by_cases ck : nI k = x1
                · rw [if_pos ck, if_pos ck]
                  exact ⟨(nI (k + 1), Int32.ofInt (v + av_gn S i (av_wh S i)), nI (av_wh S i), nI (i + 1)), ⟨rfl, rfl, k, k + 1, ck.symm, rfl, by omega, by omega⟩, rfl⟩
                · rw [if_neg ck, if_neg ck]
                  exact ⟨(nI (k + 1), Int32.ofInt (v + av_gn S i (av_wh S i)), -9, nI (i + 1)), ⟨rfl, rfl, rfl, rfl⟩, rfl⟩
          | inl w =>
            rw [ho] at i2
            obtain ⟨j1, m, k, j2, j3, j4, j5⟩ := i2
            subst j1 j2 j3
            unfold dl_I
            rw [dl_l ho]
            by_cases c5 : 5 ≤ k
            · exact ⟨(nI k, y3, nI w, nI (i + 1)), ⟨rfl, rfl, m, k, rfl, rfl, by omega, by omega⟩, by rw [pn_deal5 c5 (by omega), pn_deal5 c5 (by omega)]⟩
            · rw [pn_dealS hm hv hi c5]
              by_cases c4 : S 4 i = 0
              · rw [if_pos c4]
                exact ⟨(nI k, y3, nI w, nI (i + 1)), ⟨rfl, rfl, m, k, rfl, rfl, by omega, by omega⟩, rfl⟩
              · rw [if_neg c4, if_neg (by rw [lb_eq (by omega) (by omega)]; omega)]
                exact ⟨(nI (k + 1), y3 + Int32.ofInt (av_gn S i (av_wh S i)), nI w, nI (i + 1)), ⟨rfl, rfl, m, k + 1, rfl, rfl, by omega, by omega⟩, rfl⟩)
        (0, 0, -9, 0) ⟨rfl, rfl, rfl, rfl⟩
      obtain ⟨y2, y3, y4, y5⟩ := s
      dsimp only at i1 e
      subst i1
      rw [e, f_X9_deal_23, show (0 : Int32).toNatClampNeg = 0 from rfl, hm.1.np, if_pos (by rw [lb_le (by omega) (by omega)]; omega), f_X9_deal_101]
      cases ho : dl S x1 (S 8 0) with
      | inr a =>
        obtain ⟨k, v⟩ := a
        rw [ho] at i2
        obtain ⟨j1, j2, j3⟩ := i2
        dsimp only at j1 j2 j3
        subst j2 j3
        rw [lb_sum_r]
        by_cases c : x1 = -1
        · rw [if_neg (fun z => (lb_m1 hx).mp z c), if_pos c]; exact hm.same
        · rw [if_pos ((lb_m1 hx).mpr c), if_neg c]; exact hm.same
      | inl w =>
        rw [ho] at i2
        obtain ⟨j1, m, k, j2, j3, j4, j5⟩ := i2
        dsimp only at j1
        subst j1 j2
        rw [lb_sum_l, if_pos (nI_pos' (by omega))]
        exact hm.same
  · refine rs_rgF hw (j := 4) (by decide) (fun σ hc => ?_) (fun σ hm => ?_)
    · try dsimp only
      unfold f_X8_deal
      rw [if_neg hx]
      exact (pc_far hc (j := 4) (by decide)).bid
    · try dsimp only
      unfold f_X9_deal
      rw [if_neg hx]
      exact (pn_far hm (j := 4) (by decide)).bid
