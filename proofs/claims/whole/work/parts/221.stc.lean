def bo (F : Nat → Int32 × Int32 → Int32 × Int32) (s : Int32 × Int32) : Nat → Int32 × Int32
  | 0 => s
  | n + 1 => F n (bo F s n)
theorem bo_ge {F : Nat → Int32 × Int32 → Int32 × Int32} {s : Int32 × Int32} (hF : ∀ i s, s.1 ≤ (F i s).1) : ∀ n, s.1 ≤ (bo F s n).1
  | 0 => Int32.le_refl _
  | n + 1 => Int32.le_trans (bo_ge hF n) (hF n _)
theorem lb_outer {R : Type} (L : Nat → Nat → Int32 → Int32 → lb_Mem → R) (F : Nat → Int32 × Int32 → Int32 × Int32) (hF : ∀ i s, s.1 ≤ (F i s).1) (Q : lb_Mem → Prop) (N M : Nat) (hM : N < M) (b x : Int32) (hs : ∀ n i b' x' σ, i < N → b ≤ b' → Q σ → ∃ σ', Q σ' ∧ L (n + 1) i b' x' σ = L n (i + 1) (F i (b', x')).1 (F i (b', x')).2 σ') (σ : lb_Mem) (h0 : Q σ) : ∃ n σ', Q σ' ∧ L M 0 b x σ = L (n + 1) N (bo F (b, x) N).1 (bo F (b, x) N).2 σ' := by
  obtain ⟨n, s, ⟨i1, i2, i3⟩, e⟩ := lb_loopR (fun n (s : Nat × (Int32 × Int32) × lb_Mem) => L n s.1 s.2.1.1 s.2.1.2 s.2.2) (fun i s => s.1 = i ∧ s.2.1 = bo F (b, x) i ∧ Q s.2.2) N M hM
    (fun n i s hi hI => by
      obtain ⟨j, bx, σ⟩ := s
      obtain ⟨i1, i2, i3⟩ := hI
      dsimp only at i1 i2 i3 ⊢
      subst i1 i2
      obtain ⟨σ', q, e⟩ := hs n j _ (bo F (b, x) j).2 σ hi (bo_ge (s := (b, x)) hF j) i3
      exact ⟨(j + 1, bo F (b, x) (j + 1), σ'), ⟨rfl, rfl, q⟩, e⟩)
    (0, (b, x), σ) ⟨rfl, rfl, h0⟩
  obtain ⟨j, bx, σ'⟩ := s
  dsimp only at i1 i2 i3 e
  subst i1 i2
  exact ⟨n, σ', i3, e⟩
def gft_F (S : av_V) (m : Nat) (i : Nat) (s : Int32 × Int32) : Int32 × Int32 := bs (fun q => nI (av_al7 (av_st S 5 i q) m)) (fun q => (10 : Int32) * nI i + nI q) s.1 s.2 (S 8 1)
theorem gft_F1 (S : av_V) (m i : Nat) (s : Int32 × Int32) : s.1 ≤ (gft_F S m i s).1 := bs_ge _ _ _ _ _
theorem st_gift : lb_st_gift rs_R := by
  intro σ x1 h
  refine rs_go (f8 := fun σ => f_X8_gift x1 σ) (f9 := fun σ => f_X9_gift x1 σ) h (fun S hw => ?_)
  have hv := hw.1
  have hn := hv.1
  have hn1 := hv.2.1
  by_cases hj : ft_w x1 0 20 = 0
  · obtain ⟨m, _, hm20, rfl⟩ := ft_w0 (a := 0) (b := 20) (by decide) (by decide) hj
    refine ⟨(bo (gft_F S m) (nI (av_al7 S m), -9) (S 8 0)).2, S, hw, fun σ hc => ?_, fun σ hm => ?_⟩
    · unfold f_X8_gift
      obtain ⟨s0, e0, f0⟩ := pc_behind7 hc hv (show m ≤ 60 by omega)
      rw [pc_within, hj, lb_letS, lb_if0, e0, lb_bndS]
      obtain ⟨n, σ', hQ, e⟩ := lb_outer (fun n i b x σ => f_X8_gift_31 n (nI m) b x (nI i) σ) (gft_F S m) (gft_F1 S m) (fun σ' => av_fr 17 σ σ') (S 8 0) lb_N (by rw [lb_N300]; omega) (nI (av_al7 S m)) (-9)
        (fun n i b' x' σ' hi _ hQ => by
          have h8 : i < 8 := by omega
          obtain ⟨n2, σ2, hQ2, e2⟩ := lb_scan (fun n2 q b x σ => f_X8_gift_46 (fun (x1 : Int32) (x3 : Int32) (x4 : Int32) (x5 : Int32) (σ : lb_Mem) => f_X8_gift_31 n x1 x3 x4 x5 σ) n2 (nI m) b x (nI i) (nI q) σ) (fun q => nI (av_al7 (av_st S 5 i q) m)) (fun q => (10 : Int32) * nI i + nI q) (fun σ' => av_fr 17 σ σ') (S 8 1) lb_N (by rw [lb_N300]; omega) b' x'
            (fun n q b' x' σ' hi _ hQ => by
              have hc' := hc.fr0 hQ
              obtain ⟨s1, e1, f1⟩ := pc_given hc' hv h8 hi (show m ≤ 60 by omega)
              refine ⟨s1, hQ.tr f1, ?_⟩
              try dsimp only
              rw [f_X8_gift_46, hc'.1.nn, if_neg (by rw [lb_le (by omega) (by omega)]; omega), e1, lb_bndS, lb_letS, show nI q + 1 = nI (q + 1) from nI_1 _]) σ' hQ
          refine ⟨σ2, hQ2, ?_⟩
          try dsimp only at e2 ⊢
          rw [f_X8_gift_31, (hc.fr0 hQ).1.np, if_neg (by rw [lb_le (by omega) (by omega)]; omega), lb_k0, e2, f_X8_gift_46, (hc.fr0 hQ2).1.nn, if_pos (by rw [lb_le (by omega) (by omega)]; omega), show nI i + 1 = nI (i + 1) from nI_1 _]
          rfl) s0 f0
      try dsimp only at e
      rw [lb_k0, e, f_X8_gift_31, (hc.fr0 hQ).1.np, if_pos (by rw [lb_le (by omega) (by omega)]; omega)]
      exact hc.fr hQ
    · unfold f_X9_gift
      obtain ⟨s0, e0, f0⟩ := pn_graceNow7 hm hv (show m ≤ 60 by omega)
      rw [pn_wrongBy, hj, lb_letS, lb_if0, e0, lb_bndS]
      obtain ⟨n, σ', hQ, e⟩ := lb_outer (fun n i b x σ => f_X9_gift_31 n (nI m) b x (nI i) σ) (gft_F S m) (gft_F1 S m) (fun σ' => av_fk 55 σ σ') (S 8 0) lb_N (by rw [lb_N300]; omega) (nI (av_al7 S m)) (-9)
        (fun n i b' x' σ' hi _ hQ => by
          have h8 : i < 8 := by omega
          obtain ⟨n2, σ2, hQ2, e2⟩ := lb_scan (fun n2 q b x σ => f_X9_gift_45 (fun (x1 : Int32) (x3 : Int32) (x4 : Int32) (x5 : Int32) (σ : lb_Mem) => f_X9_gift_31 n x1 x3 x4 x5 σ) n2 (nI m) b x (nI i) (nI q) σ) (fun q => nI (av_al7 (av_st S 5 i q) m)) (fun q => (10 : Int32) * nI i + nI q) (fun σ' => av_fk 55 σ σ') (S 8 1) lb_N (by rw [lb_N300]; omega) b' x'
            (fun n q b' x' σ' hi _ hQ => by
              have hm' := hm.fk0 hQ
              obtain ⟨s1, e1, f1⟩ := pn_given hm' hv h8 hi (show m ≤ 60 by omega)
              refine ⟨s1, hQ.tr f1, ?_⟩
              try dsimp only
              rw [f_X9_gift_45, show (1 : Int32).toNatClampNeg = 1 from rfl, hm'.1.nn, if_neg (by rw [lb_le (by omega) (by omega)]; omega), e1, lb_bndS, lb_letS, show nI q + 1 = nI (q + 1) from nI_1 _, lb_ltle]) σ' hQ
          refine ⟨σ2, hQ2, ?_⟩
          try dsimp only at e2 ⊢
          rw [f_X9_gift_31, show (0 : Int32).toNatClampNeg = 0 from rfl, (hm.fk0 hQ).1.np, if_neg (by rw [lb_le (by omega) (by omega)]; omega), lb_k0, e2, f_X9_gift_45, show (1 : Int32).toNatClampNeg = 1 from rfl, (hm.fk0 hQ2).1.nn, if_pos (by rw [lb_le (by omega) (by omega)]; omega), show nI i + 1 = nI (i + 1) from nI_1 _]
          rfl) s0 f0
      try dsimp only at e
      rw [lb_k0, e, f_X9_gift_31, show (0 : Int32).toNatClampNeg = 0 from rfl, (hm.fk0 hQ).1.np, if_pos (by rw [lb_le (by omega) (by omega)]; omega)]
      exact hm.fk hQ
  · refine rs_rg hw hj (fun σ hc => ?_) (fun σ hm => ?_)
    · try dsimp only
      unfold f_X8_gift
      rw [pc_within, lb_letS]
      exact pc_else hc hj (ft_w7 _ _ _)
    · try dsimp only
      unfold f_X9_gift
      rw [pn_wrongBy, lb_letS]
      exact pn_else hm hj (ft_w7 _ _ _)
/-- two pots change owners -/
def chg (S : av_V) (i j : Nat) : av_V := av_st (av_st S 5 i (S 5 j)) 5 j (S 5 i)
theorem chg_W {S : av_V} (hv : av_W S) {i j : Nat} (hi : i < S 8 0) (hj : j < S 8 0) : av_W (chg S i j) := by
  have h1 := hv.2.2.2.1 i hi
  have h2 := hv.2.2.2.1 j hj
  exact (hv.set (by omega)).set (by rw [av_st_a _ (by decide)]; omega)
theorem chg_same {S : av_V} {i j : Nat} (h : S 5 i = S 5 j) : chg S i j = S := by
  funext a k
  unfold chg av_st
  split
  · rename_i c; rw [c.1, c.2, h]
  · split
    · rename_i c; rw [c.1, c.2, h]
    · rfl
def chg_F (S : av_V) (m : Nat) (i : Nat) (s : Int32 × Int32) : Int32 × Int32 := bs (fun q => nI (av_al7 (chg S i (i + 1 + q)) m)) (fun q => (10 : Int32) * nI i + nI (i + 1 + q)) s.1 s.2 (S 8 0 - (i + 1))
theorem chg_F1 (S : av_V) (m i : Nat) (s : Int32 × Int32) : s.1 ≤ (chg_F S m i s).1 := bs_ge _ _ _ _ _
theorem pc_changed {σ : lb_Mem} {S : av_V} (h : rs_C σ S) (hv : av_W S) {t q m : Nat} (ht : t < S 8 0) (hq : q < S 8 0) (hm : m ≤ 60) : ∃ σ1, f_X8_allGraceChanged (nI t) (nI q) (nI m) σ = some (nI (av_al7 (chg S t q) m), σ1) ∧ av_fr 17 σ σ1 := by
  have hn := hv.1
  have ht8 : t < 8 := by omega
  have hq8 : q < 8 := by omega
  obtain ⟨s1, e1, h1, f1⟩ := pc_mind h
  have h2 := (h1.set (a := 5) (t := t) (S 5 q) (by decide) ht8).set (a := 5) (t := q) (S 5 t) (by decide) hq8
  obtain ⟨s3, e3, g3, f3⟩ := pc_tail h2 (chg_W hv ht hq) hm
  refine ⟨s3, ?_, ((f1.tr (av_fr.sto (by omega) (by omega))).tr (av_fr.sto (by omega) (by omega))).tr f3⟩
  unfold f_X8_allGraceChanged
  rw [e1, lb_bndS, lb_ixN ht8 (by decide), lb_ixN hq8 (by decide), lb_chkT, lb_chkT, lb_letS, lb_chkT, lb_chkT, lb_letS, lb_cl (show t < 2147483648 by omega), lb_cl (show q < 2147483648 by omega), lb_sto_o (show 14 ≠ 30 by decide), f1 14 (by omega), show σ 14 q = nI (S 5 q) from h.1.r5 q hq8, show σ 14 t = nI (S 5 t) from h.1.r5 t ht8, show lb_sto (lb_sto s1 30 t (nI (S 5 q))) 30 q (nI (S 5 t)) = lb_sto (lb_sto s1 (17 + 8 + 5) t (nI (S 5 q))) (17 + 8 + 5) q (nI (S 5 t)) from rfl, e3, lb_bndS, g3, lb_bndS]
  rfl
theorem st_change : lb_st_change rs_R := by
  intro σ x1 h
  refine rs_go (f8 := fun σ => f_X8_change x1 σ) (f9 := fun σ => f_X9_change x1 σ) h (fun S hw => ?_)
  have hv := hw.1
  have hn := hv.1
  have hn1 := hv.2.1
  by_cases hj : ft_w x1 0 20 = 0
  · obtain ⟨m, _, hm20, rfl⟩ := ft_w0 (a := 0) (b := 20) (by decide) (by decide) hj
    refine ⟨(bo (chg_F S m) (nI (av_al7 S m), -9) (S 8 0)).2, S, hw, fun σ hc => ?_, fun σ hm => ?_⟩
    · unfold f_X8_change
      obtain ⟨s0, e0, f0⟩ := pc_behind7 hc hv (show m ≤ 60 by omega)
      rw [pc_within, hj, lb_letS, lb_if0, e0, lb_bndS]
      obtain ⟨n, σ', hQ, e⟩ := lb_outer (fun n i b x σ => f_X8_change_31 n (nI m) b x (nI i) σ) (chg_F S m) (chg_F1 S m) (fun σ' => av_fr 17 σ σ') (S 8 0) lb_N (by rw [lb_N300]; omega) (nI (av_al7 S m)) (-9)
        (fun n i b' x' σ' hi _ hQ => by
          obtain ⟨n2, σ2, hQ2, e2⟩ := lb_scan (fun n2 q b x σ => f_X8_change_49 (fun (x1 : Int32) (x3 : Int32) (x4 : Int32) (x5 : Int32) (σ : lb_Mem) => f_X8_change_31 n x1 x3 x4 x5 σ) n2 (nI m) b x (nI i) (nI (i + 1 + q)) σ) (fun q => nI (av_al7 (chg S i (i + 1 + q)) m)) (fun q => (10 : Int32) * nI i + nI (i + 1 + q)) (fun σ' => av_fr 17 σ σ') (S 8 0 - (i + 1)) lb_N (by rw [lb_N300]; omega) b' x'
            (fun n q b' x' σ' hq _ hQ => by
              have hc' := hc.fr0 hQ
              obtain ⟨s1, e1, f1⟩ := pc_changed hc' hv hi (show i + 1 + q < S 8 0 by omega) (show m ≤ 60 by omega)
              refine ⟨s1, hQ.tr f1, ?_⟩
              try dsimp only
              rw [f_X8_change_49, hc'.1.np, if_neg (by rw [lb_le (by omega) (by omega)]; omega), e1, lb_bndS, lb_letS, show nI (i + 1 + q) + 1 = nI (i + 1 + (q + 1)) from nI_1 _]) σ' hQ
          refine ⟨σ2, hQ2, ?_⟩
          try dsimp only at e2 ⊢
          rw [f_X8_change_31, (hc.fr0 hQ).1.np, if_neg (by rw [lb_le (by omega) (by omega)]; omega), lb_letS, show nI i + (1 : Int32) = nI (i + 1 + 0) from nI_1 _, e2, f_X8_change_49, (hc.fr0 hQ2).1.np, if_pos (by rw [lb_le (by omega) (by omega)]; omega), show nI i + 1 = nI (i + 1) from nI_1 _]
          rfl) s0 f0
      try dsimp only at e
      rw [lb_k0, e, f_X8_change_31, (hc.fr0 hQ).1.np, if_pos (by rw [lb_le (by omega) (by omega)]; omega)]
      exact hc.fr hQ
    · unfold f_X9_change
      obtain ⟨s0, e0, f0⟩ := pn_graceNow7 hm hv (show m ≤ 60 by omega)
      rw [pn_wrongBy, hj, lb_letS, lb_if0, e0, lb_bndS]
      obtain ⟨n, σ', hQ, e⟩ := lb_outer (fun n i b x σ => f_X9_change_31 n (nI m) b x (nI i) σ) (chg_F S m) (chg_F1 S m) (fun σ' => av_fk 55 σ σ') (S 8 0) lb_N (by rw [lb_N300]; omega) (nI (av_al7 S m)) (-9)
        (fun n i b' x' σ' hi hbase hQ => by
          obtain ⟨n2, σ2, hQ2, e2⟩ := lb_scan (fun n2 q b x σ => f_X9_change_48 (fun (x1 : Int32) (x3 : Int32) (x4 : Int32) (x5 : Int32) (σ : lb_Mem) => f_X9_change_31 n x1 x3 x4 x5 σ) n2 (nI m) b x (nI i) (nI (i + 1 + q)) σ) (fun q => nI (av_al7 (chg S i (i + 1 + q)) m)) (fun q => (10 : Int32) * nI i + nI (i + 1 + q)) (fun σ' => av_fk 55 σ σ') (S 8 0 - (i + 1)) lb_N (by rw [lb_N300]; omega) b' x'
            (fun n q b2 x2 σ' hq hb2 hQ => by
              have hm' := hm.fk0 hQ
              have hj8 : i + 1 + q < 8 := by omega
              have hi8 : i < 8 := by omega
              have hbi := hv.2.2.1 i hi8
              have hbj := hv.2.2.1 _ hj8
              obtain ⟨s1, e1, h1, f1⟩ := pn_copy hm'
              have h2 := (h1.setT (a := 5) (t := i) (S 5 (i + 1 + q)) (by decide) hi8).setT (a := 5) (t := i + 1 + q) (S 5 i) (by decide) hj8
              obtain ⟨s3, e3, g3, f3⟩ := pn_tail h2 (chg_W hv hi (show i + 1 + q < S 8 0 by omega)) (show m ≤ 60 by omega)
              have f4 := ((f1.tr av_fk.sto).tr av_fk.sto).tr f3
              refine ⟨s3, hQ.tr f4, ?_⟩
              try dsimp only
              rw [f_X9_change_48, show (0 : Int32).toNatClampNeg = 0 from rfl, hm'.1.np, if_neg (by rw [lb_le (by omega) (by omega)]; omega), e1, lb_bndS, show f_X9_ofT (nI i) (5 : Int32) = nI (3 + 6 * i + 5) from pm_oT i 5, show f_X9_ofT (nI (i + 1 + q)) (5 : Int32) = nI (3 + 6 * (i + 1 + q) + 5) from pm_oT _ 5, lb_ixN (show 3 + 6 * i + 5 < 61 by omega) (by decide), lb_ixN (show 3 + 6 * (i + 1 + q) + 5 < 61 by omega) (by decide), lb_chkT, lb_chkT, lb_letS, lb_chkT, lb_chkT, lb_letS, lb_cl (show 3 + 6 * i + 5 < 2147483648 by omega), lb_cl (show 3 + 6 * (i + 1 + q) + 5 < 2147483648 by omega), lb_sto_o (show 54 ≠ 55 by decide), f1 54 (by decide), hm'.1.t5 i hi8, hm'.1.t5 _ hj8, e3, lb_bndS, lb_chkT, lb_chkT, (hm'.fk0 f4).1.t5 i hi8, (hm'.fk0 f4).1.t5 _ hj8, g3, lb_bndS, lb_letS, lb_bndS, show nI (i + 1 + q) + 1 = nI (i + 1 + (q + 1)) from nI_1 _]
              by_cases c : S 5 i = S 5 (i + 1 + q)
              · rw [if_pos (by rw [c]), chg_same c, if_pos (Int32.le_trans hbase hb2)]
              · rw [if_neg (by rw [lb_eq (by omega) (by omega)]; exact c), lb_ltle]
                rfl) σ' hQ
          refine ⟨σ2, hQ2, ?_⟩
          try dsimp only at e2 ⊢
          rw [f_X9_change_31, show (0 : Int32).toNatClampNeg = 0 from rfl, (hm.fk0 hQ).1.np, if_neg (by rw [lb_le (by omega) (by omega)]; omega), lb_letS, show nI i + (1 : Int32) = nI (i + 1 + 0) from nI_1 _, e2, f_X9_change_48, show (0 : Int32).toNatClampNeg = 0 from rfl, (hm.fk0 hQ2).1.np, if_pos (by rw [lb_le (by omega) (by omega)]; omega), show nI i + 1 = nI (i + 1) from nI_1 _]
          rfl) s0 f0
      try dsimp only at e
      rw [lb_k0, e, f_X9_change_31, show (0 : Int32).toNatClampNeg = 0 from rfl, (hm.fk0 hQ).1.np, if_pos (by rw [lb_le (by omega) (by omega)]; omega)]
      exact hm.fk hQ
  · refine rs_rg hw hj (fun σ hc => ?_) (fun σ hm => ?_)
    · try dsimp only
      unfold f_X8_change
      rw [pc_within, lb_letS]
      exact pc_else hc hj (ft_w7 _ _ _)
    · try dsimp only
      unfold f_X9_change
      rw [pn_wrongBy, lb_letS]
      exact pn_else hm hj (ft_w7 _ _ _)
/-- labels by the auditor -/
def aud (S : av_V) (a : Nat) : Nat → av_V
  | 0 => S
  | n + 1 => av_st (aud S a n) 3 n (if a = 0 then S 2 n else 6)
theorem aud_st (S : av_V) (a : Nat) {b i : Nat} (h : b ≠ 3) : ∀ n, aud S a n b i = S b i
  | 0 => rfl
  | n + 1 => by rw [aud, av_st_a _ h]; exact aud_st S a h n
theorem aud_W {S : av_V} (hv : av_W S) (a : Nat) : ∀ n, n ≤ 8 → av_W (aud S a n)
  | 0, _ => hv
  | n + 1, h => by
    rw [aud]
    have := hv.2.2.1 n (by omega)
    exact (aud_W hv a n (by omega)).set (by split <;> omega)
theorem st_audit : lb_st_audit rs_R := by
  intro σ x1 x2 h
  refine rs_go (f8 := fun σ => f_X8_audit x1 x2 σ) (f9 := fun σ => f_X9_audit x1 x2 σ) h (fun S hw => ?_)
  have hv := hw.1
  have hn := hv.1
  have hn1 := hv.2.1
  by_cases hj : ft_f (ft_w x1 0 30) (ft_k x2 1) = 0
  · obtain ⟨hp, hq⟩ := ft_f0 hj
    obtain ⟨m, _, hm30, rfl⟩ := ft_w0 (a := 0) (b := 30) (by decide) (by decide) hp
    obtain ⟨a, ha, rfl⟩ := ft_k0 (m := 1) (by decide) hq
    have hm60 : m ≤ 60 := by omega
    refine ⟨nI (av_al7 (aud S a (S 8 0)) m) - nI (av_al7 S m), S, hw, fun σ hc => ?_, fun σ hm => ?_⟩
    · unfold f_X8_audit
      obtain ⟨s0, e0, f0⟩ := pc_behind7 hc hv hm60
      obtain ⟨s1, e1, h1, f1⟩ := pc_mind (hc.fr0 f0)
      rw [pc_within, pc_known, pc_first (ft_w7 _ _ _), hj, lb_letS, lb_if0, e0, lb_bndS, e1, lb_bndS]
      obtain ⟨n, s, ⟨i1, i2, i3⟩, e⟩ := lb_loopR (fun n (s : Int32 × lb_Mem) => f_X8_audit_47 n (nI m) (nI a) (nI (av_al7 S m)) s.1 s.2) (fun i s => s.1 = nI i ∧ av_C 17 s.2 (aud S a i) ∧ av_fr 17 σ s.2) (S 8 0) lb_N (by rw [lb_N300]; omega)
        (fun n i s hi hI => by
          obtain ⟨x, σ'⟩ := s
          obtain ⟨i1, i2, i3⟩ := hI
          dsimp only at i1 i2 i3 ⊢
          subst i1
          have h8 : i < 8 := by omega
          refine ⟨(nI (i + 1), lb_sto σ' (17 + 8 + 3) i (nI (if a = 0 then S 2 i else 6))), ⟨rfl, i2.set _ (by decide) h8, i3.tr (av_fr.sto (by omega) (by omega))⟩, ?_⟩
          rw [f_X8_audit_47, i2.np, aud_st S a (by decide), if_neg (by rw [lb_le (by omega) (by omega)]; omega), lb_ixN h8 (by decide), lb_chkT, lb_cl (by omega), show σ' 27 i = nI (aud S a i 2 i) from i2.r2 i h8, aud_st S a (by decide)]
          by_cases c : a = 0
          · subst c; rw [if_pos (show nI 0 = 0 from rfl), if_pos rfl, f_X8_audit_87, lb_ixN h8 (by decide), lb_chkT, lb_letS, lb_cl (by omega), show nI i + 1 = nI (i + 1) from nI_1 _]
          · rw [if_neg (by rw [lb_k0, lb_eq (by omega) (by omega)]; exact c), if_neg c, f_X8_audit_87, lb_ixN h8 (by decide), lb_chkT, lb_letS, lb_cl (by omega), show nI i + 1 = nI (i + 1) from nI_1 _]; rfl)
        (nI 0, s1) ⟨rfl, h1, f0.tr f1⟩
      obtain ⟨x, σ'⟩ := s
      dsimp only at i1 i2 i3 e
      subst i1
      obtain ⟨s3, e3, g3, f3⟩ := pc_tail i2 (aud_W hv a _ hn) hm60
      rw [lb_k0, e, f_X8_audit_47, i2.np, aud_st S a (by decide), if_pos (by rw [lb_le (by omega) (by omega)]; omega), e3, lb_bndS, g3, lb_bndS]
      exact hc.fr (i3.tr f3)
    · unfold f_X9_audit
      obtain ⟨s0, e0, f0⟩ := pn_graceNow7 hm hv hm60
      obtain ⟨s1, e1, h1, f1⟩ := pn_copy (hm.fk0 f0)
      rw [pn_wrongBy, hp, lb_letS, lb_if0, pn_isIn0, lb_ifn ((ft_kl _ _).mp hq), f_X9_audit_24, lb_if0, e0, lb_bndS, e1, lb_bndS]
      obtain ⟨n, s, ⟨i1, i2, i3⟩, e⟩ := lb_loopR (fun n (s : Int32 × lb_Mem) => f_X9_audit_55 n (nI m) (nI a) (nI (av_al7 S m)) s.1 s.2) (fun i s => s.1 = nI i ∧ av_M 55 s.2 (aud S a i) ∧ av_fk 55 σ s.2) (S 8 0) lb_N (by rw [lb_N300]; omega)
        (fun n i s hi hI => by
          obtain ⟨x, σ'⟩ := s
          obtain ⟨i1, i2, i3⟩ := hI
          dsimp only at i1 i2 i3 ⊢
          subst i1
          have h8 : i < 8 := by omega
          have hm' := hm.fk0 i3
          refine ⟨(nI (i + 1), lb_sto σ' 55 (3 + 6 * i + 3) (nI (if a = 0 then S 2 i else 6))), ⟨rfl, i2.setT _ (by decide) h8, i3.tr av_fk.sto⟩, ?_⟩
          rw [f_X9_audit_55, show (0 : Int32).toNatClampNeg = 0 from rfl, hm'.1.np, if_neg (by rw [lb_le (by omega) (by omega)]; omega), show f_X9_ofT (nI i) (2 : Int32) = nI (3 + 6 * i + 2) from pm_oT i 2, show f_X9_ofT (nI i) (3 : Int32) = nI (3 + 6 * i + 3) from pm_oT i 3, lb_ixN (show 3 + 6 * i + 2 < 61 by omega) (by decide), lb_chkT, lb_cl (show 3 + 6 * i + 2 < 2147483648 by omega), hm'.1.t2 i h8]
          by_cases c : a = 0
          · subst c; rw [if_pos (show nI 0 = 0 from rfl), if_pos rfl, f_X9_audit_96, lb_ixN (show 3 + 6 * i + 3 < 61 by omega) (by decide), lb_chkT, lb_letS, lb_cl (by omega), show nI i + 1 = nI (i + 1) from nI_1 _]
          · rw [if_neg (by rw [lb_k0, lb_eq (by omega) (by omega)]; exact c), if_neg c, f_X9_audit_96, lb_ixN (show 3 + 6 * i + 3 < 61 by omega) (by decide), lb_chkT, lb_letS, lb_cl (by omega), show nI i + 1 = nI (i + 1) from nI_1 _]; rfl)
        (nI 0, s1) ⟨rfl, h1, f0.tr f1⟩
      obtain ⟨x, σ'⟩ := s
      dsimp only at i1 i2 i3 e
      subst i1
      obtain ⟨s3, e3, g3, f3⟩ := pn_tail i2 (aud_W hv a _ hn) hm60
      rw [lb_k0, e, f_X9_audit_55, show (0 : Int32).toNatClampNeg = 0 from rfl, (hm.fk0 i3).1.np, if_pos (by rw [lb_le (by omega) (by omega)]; omega), e3, lb_bndS, g3, lb_bndS]
      exact hm.fk (i3.tr f3)
  · refine rs_rgF hw hj (fun σ hc => ?_) (fun σ hm => ?_)
    · try dsimp only
      unfold f_X8_audit
      rw [pc_within, pc_known, pc_first (ft_w7 _ _ _), lb_letS, lb_ifj hj (ft_f7 (ft_w7 _ _ _) (ft_k7 _ _))]
      exact (pc_far hc (ft_f7 (ft_w7 _ _ _) (ft_k7 _ _))).bid
    · try dsimp only
      unfold f_X9_audit
      rw [pn_wrongBy, lb_letS]
      by_cases hp : ft_w x1 0 30 = 0
      · rw [ft_fz hp] at hj ⊢
        rw [hp, lb_if0, pn_isIn0, lb_if1 (fun z => hj ((ft_kl _ _).mpr z)), f_X9_audit_24, if_neg (show ¬ (-2 : Int32) = 0 by decide), ft_k2 hj]
        exact (pn_far hm (j := 2) (by decide)).bid
      · rw [ft_fn hp, lb_ifj hp (ft_w7 _ _ _), f_X9_audit_24, lb_ifj hp (ft_w7 _ _ _)]
        exact (pn_far hm (ft_w7 _ _ _)).bid
