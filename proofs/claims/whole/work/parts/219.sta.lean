/-! scans for the best -/
def bs (v g : Nat → Int32) (b x : Int32) : Nat → Int32 × Int32
  | 0 => (b, x)
  | n + 1 => if v n ≤ (bs v g b x n).1 then bs v g b x n else (v n, g n)
theorem bs_ge (v g : Nat → Int32) (b x : Int32) : ∀ n, b ≤ (bs v g b x n).1
  | 0 => Int32.le_refl _
  | n + 1 => by
    rw [bs]
    have ih := bs_ge v g b x n
    split
    · exact ih
    · rename_i h; exact Int32.le_of_lt (Int32.lt_of_le_of_lt ih (Int32.not_le.mp h))
theorem bs_x {v g : Nat → Int32} {b : Int32} (h : ¬ v 0 ≤ b) (x x' : Int32) : ∀ n, 0 < n → bs v g b x n = bs v g b x' n
  | 0, h0 => absurd h0 (by omega)
  | 1, _ => by rw [bs, bs, bs, bs, if_neg h, if_neg h]
  | n + 2, _ => by rw [bs, bs_x h x x' (n + 1) (by omega)]; rfl
theorem bs_cg {v v' g g' : Nat → Int32} {b x : Int32} : ∀ n, (∀ i, i < n → v i = v' i ∧ g i = g' i) → bs v g b x n = bs v' g' b x n
  | 0, _ => rfl
  | n + 1, h => by rw [bs, bs, bs_cg n (fun i hi => h i (by omega)), (h n (by omega)).1, (h n (by omega)).2]
theorem lb_scan {R : Type} (L : Nat → Nat → Int32 → Int32 → lb_Mem → R) (v g : Nat → Int32) (Q : lb_Mem → Prop) (N M : Nat) (hM : N < M) (b x : Int32) (hs : ∀ n i b' x' σ, i < N → b ≤ b' → Q σ → ∃ σ', Q σ' ∧ L (n + 1) i b' x' σ = if v i ≤ b' then L n (i + 1) b' x' σ' else L n (i + 1) (v i) (g i) σ') (σ : lb_Mem) (h0 : Q σ) : ∃ n σ', Q σ' ∧ L M 0 b x σ = L (n + 1) N (bs v g b x N).1 (bs v g b x N).2 σ' := by
  obtain ⟨n, s, ⟨i1, i2, i3, i4⟩, e⟩ := lb_loopR (fun n (s : Nat × Int32 × Int32 × lb_Mem) => L n s.1 s.2.1 s.2.2.1 s.2.2.2) (fun i s => s.1 = i ∧ s.2.1 = (bs v g b x i).1 ∧ s.2.2.1 = (bs v g b x i).2 ∧ Q s.2.2.2) N M hM
    (fun n i s hi hI => by
      obtain ⟨j, b', x', σ⟩ := s
      obtain ⟨i1, i2, i3, i4⟩ := hI
      dsimp only at i1 i2 i3 i4 ⊢
      subst i1 i2 i3
      obtain ⟨σ', q, e⟩ := hs n j _ (bs v g b x j).2 σ hi (bs_ge v g b x j) i4
      by_cases c : v j ≤ (bs v g b x j).1
      · rw [if_pos c] at e
        exact ⟨(j + 1, (bs v g b x j).1, (bs v g b x j).2, σ'), ⟨rfl, by rw [bs, if_pos c], by rw [bs, if_pos c], q⟩, e⟩
      · rw [if_neg c] at e
        exact ⟨(j + 1, v j, g j, σ'), ⟨rfl, by rw [bs, if_neg c], by rw [bs, if_neg c], q⟩, e⟩)
    (0, b, x, σ) ⟨rfl, rfl, rfl, h0⟩
  obtain ⟨j, b', x', σ'⟩ := s
  dsimp only at i1 i2 i3 i4 e
  subst i1 i2 i3
  exact ⟨n, σ', i4, e⟩
theorem lb_ltle {T : Type} {a b : Int32} {A B : T} : (if b < a then A else B) = if a ≤ b then B else A := by
  by_cases c : a ≤ b
  · rw [if_pos c, if_neg (Int32.not_lt.mpr c)]
  · rw [if_neg c, if_pos (Int32.not_le.mp c)]
/-! what a village comes to -/
def av_al7 (V : av_V) (m : Nat) : Nat := av_sm (av_ys V m 7) (V 8 1)
def av_ow (V : av_V) (p m : Nat) : Nat := av_p V p m 7 p
theorem pc_tail {s : lb_Mem} {V : av_V} (h : av_C 17 s V) (hv : av_W V) {m : Nat} (hm : m ≤ 60) : ∃ σ1, f_X7_pass 17 (nI m) s = some σ1 ∧ f_X7_allGrace σ1 17 = some (nI (av_al7 V m)) ∧ av_fr 17 s σ1 := by
  obtain ⟨σ1, e1, h1, f1⟩ := pv_pass h hv hm
  exact ⟨σ1, e1, by rw [pv_allGrace h1 (hv.ys m), av_ys81]; rfl, f1⟩
theorem pn_tail {s : lb_Mem} {V : av_V} (h : av_M 55 s V) (hv : av_W V) {m : Nat} (hm : m ≤ 60) : ∃ σ1, f_X9_yearsOn 55 (nI m) s = some σ1 ∧ f_X9_allGrace σ1 55 = some (nI (av_al7 V m)) ∧ av_fk 55 s σ1 := by
  obtain ⟨σ1, e1, h1, f1⟩ := pm_yearsOn h hv hm
  exact ⟨σ1, e1, by rw [pm_allGrace h1 (hv.ys m), av_ys81]; rfl, f1⟩
theorem pc_own {s : lb_Mem} {V : av_V} (h : av_C 17 s V) (hv : av_W V) {p m : Nat} (hp : p < 5) (hm : m ≤ 60) : ∃ σ1, f_X7_passFor 17 (nI p) (nI m) s = some σ1 ∧ σ1 32 p = nI (av_ow V p m) ∧ av_fr 17 s σ1 := by
  obtain ⟨σ1, e1, h1, f1⟩ := pv_passFor h hv hp hm
  exact ⟨σ1, e1, h1.r7 p hp, f1⟩
theorem pn_own {s : lb_Mem} {V : av_V} (h : av_M 55 s V) (hv : av_W V) {p m : Nat} (hp : p < V 8 1) (hm : m ≤ 60) : ∃ σ1, f_X9_yearsOn 55 (nI m) s = some σ1 ∧ σ1 55 (51 + 2 * p + 1) = nI (av_ow V p m) ∧ av_fk 55 s σ1 := by
  obtain ⟨σ1, e1, h1, f1⟩ := pm_yearsOn h hv hm
  refine ⟨σ1, e1, ?_, f1⟩
  rw [h1.p1 p (by have := hv.2.1; omega), (av_ys_al hp m).2.2.2.1]
  rfl
theorem rs_C.fr0 {σ σ' : lb_Mem} {S : av_V} (h : rs_C σ S) (e : av_fr 17 σ σ') : rs_C σ' S := h.cong (fun k _ hk => e k (by omega))
theorem rs_M.fk0 {σ σ' : lb_Mem} {S : av_V} (h : rs_M σ S) (e : av_fk 55 σ σ') : rs_M σ' S := h.cong (fun k _ hk _ _ => e k hk)
theorem pc_behind7 {σ : lb_Mem} {S : av_V} (h : rs_C σ S) (hv : av_W S) {n : Nat} (hn : n ≤ 60) : ∃ σ1, f_X8_allGraceBehind (nI n) σ = some (nI (av_al7 S n), σ1) ∧ av_fr 17 σ σ1 := pc_behind h hv hn
theorem pn_graceNow7 {σ : lb_Mem} {S : av_V} (h : rs_M σ S) (hv : av_W S) {n : Nat} (hn : n ≤ 60) : ∃ σ1, f_X9_graceNow (nI n) σ = some (nI (av_al7 S n), σ1) ∧ av_fk 55 σ σ1 := pn_graceNow h hv hn
theorem av_al7_st {S : av_V} {a i x m : Nat} (h : a ≠ 8) : av_al7 (av_st S a i x) m = av_sm (av_ys (av_st S a i x) m 7) (S 8 1) := by unfold av_al7; rw [av_st_a _ (Ne.symm h)]
theorem pc_given {σ : lb_Mem} {S : av_V} (h : rs_C σ S) (hv : av_W S) {t q m : Nat} (ht : t < 8) (hq : q < S 8 1) (hm : m ≤ 60) : ∃ σ1, f_X8_allGraceGiven (nI t) (nI q) (nI m) σ = some (nI (av_al7 (av_st S 5 t q) m), σ1) ∧ av_fr 17 σ σ1 := by
  obtain ⟨s1, e1, h1, f1⟩ := pc_mind h
  have h2 := h1.set (a := 5) (t := t) q (by decide) ht
  obtain ⟨s3, e3, g3, f3⟩ := pc_tail h2 (hv.set (by omega)) hm
  refine ⟨s3, ?_, (f1.tr (av_fr.sto (by omega) (by omega))).tr f3⟩
  unfold f_X8_allGraceGiven
  rw [e1, lb_bndS, lb_ixN ht (by decide), lb_chkT, lb_letS, lb_cl (by omega), show lb_sto s1 30 t (nI q) = lb_sto s1 (17 + 8 + 5) t (nI q) from rfl, e3, lb_bndS, g3, lb_bndS]
theorem pn_given {σ : lb_Mem} {S : av_V} (h : rs_M σ S) (hv : av_W S) {t q m : Nat} (ht : t < 8) (hq : q < S 8 1) (hm : m ≤ 60) : ∃ σ1, f_X9_graceGiven (nI t) (nI q) (nI m) σ = some (nI (av_al7 (av_st S 5 t q) m), σ1) ∧ av_fk 55 σ σ1 := by
  obtain ⟨s1, e1, h1, f1⟩ := pn_copy h
  have h2 := h1.setT (a := 5) (t := t) q (by decide) ht
  obtain ⟨s3, e3, g3, f3⟩ := pn_tail h2 (hv.set (by omega)) hm
  refine ⟨s3, ?_, (f1.tr av_fk.sto).tr f3⟩
  unfold f_X9_graceGiven
  rw [e1, lb_bndS, show f_X9_ofT (nI t) (5 : Int32) = nI (3 + 6 * t + 5) from pm_oT t 5, lb_ixN (show 3 + 6 * t + 5 < 61 by omega) (by decide), lb_chkT, lb_letS, lb_cl (by omega), e3, lb_bndS, g3, lb_bndS]
/-! two faults, the first of a pot or a person, the second of years -/
theorem pc_two7 {σ : lb_Mem} {S : av_V} (h : rs_C σ S) (x1 x2 : Int32) : f_X8_first (f_X8_potThere σ x1) (f_X8_within x2 (0 : Int32) (30 : Int32)) = -(nI (ft_f (ft_p S x1) (ft_w x2 0 30))) := by rw [pc_potThere h, pc_within, pc_first (ft_p7 _ _)]
theorem pc_tri7 {σ : lb_Mem} {S : av_V} (h : rs_C σ S) (x1 x2 : Int32) : f_X8_first (f_X8_personThere σ x1) (f_X8_within x2 (0 : Int32) (30 : Int32)) = -(nI (ft_f (ft_q S x1) (ft_w x2 0 30))) := by rw [pc_personThere h, pc_within, pc_first (ft_q7 _ _)]
theorem st_heir : lb_st_heir rs_R := by
  intro σ x1 x2 h
  refine rs_go (f8 := fun σ => f_X8_heir x1 x2 σ) (f9 := fun σ => f_X9_heir x1 x2 σ) h (fun S hw => ?_)
  have hv := hw.1
  have hn := hv.1
  have hn1 := hv.2.1
  by_cases hj : ft_f (ft_p S x1) (ft_w x2 0 30) = 0
  · obtain ⟨hp, hq⟩ := ft_f0 hj
    obtain ⟨t, ht, rfl⟩ := ft_p0 hv hp
    obtain ⟨m, _, hm30, rfl⟩ := ft_w0 (a := 0) (b := 30) (by decide) (by decide) hq
    have h8 : t < 8 := by omega
    have h0 : 0 < S 8 1 := by have := hv.2.2.2.1 t ht; omega
    have hne : ¬ nI (av_al7 (av_st S 5 t 0) m) ≤ (-1 : Int32) := by
      have : av_al7 (av_st S 5 t 0) m ≤ 99 * 5 := by
        have hb : ∀ k, k ≤ 5 → av_sm (av_ys (av_st S 5 t 0) m 7) k ≤ 99 * k := by
          intro k
          induction k with
          | zero => intro _; exact Nat.le_refl _
          | succ k ih => intro hk; rw [av_sm]; have := ih (by omega); have := ((hv.set (a := 5) (i := t) (x := 0) (by omega)).ys m).2.2.2.2 k (by omega); omega
        rw [av_al7_st (by decide)]
        have := hb (S 8 1) (by omega)
        omega
      intro z
      have z2 := Int32.le_iff_toInt_le.mp z
      rw [show nI (av_al7 (av_st S 5 t 0) m) = Int32.ofInt (av_al7 (av_st S 5 t 0) m : Nat) from rfl, gI_int (by omega) (by omega), show (-1 : Int32).toInt = -1 from rfl] at z2
      omega
    refine ⟨(bs (fun q => nI (av_al7 (av_st S 5 t q) m)) nI (-1) 0 (S 8 1)).2, S, hw, fun σ hc => ?_, fun σ hm => ?_⟩
    · unfold f_X8_heir
      rw [pc_two7 hc, hj, lb_letS, lb_if0]
      obtain ⟨n, σ', hQ, e⟩ := lb_scan (fun n i b x σ => f_X8_heir_35 n (nI t) (nI m) x b (nI i) σ) (fun q => nI (av_al7 (av_st S 5 t q) m)) nI (fun σ' => av_fr 17 σ σ') (S 8 1) lb_N (by rw [lb_N300]; omega) (-1) 0
        (fun n i b' x' σ' hi _ hQ => by
          have hc' := hc.fr0 hQ
          obtain ⟨s1, e1, f1⟩ := pc_given hc' hv h8 hi (show m ≤ 60 by omega)
          refine ⟨s1, hQ.tr f1, ?_⟩
          try dsimp only
          rw [f_X8_heir_35, hc'.1.nn, if_neg (by rw [lb_le (by omega) (by omega)]; omega), e1, lb_bndS, show nI i + 1 = nI (i + 1) from nI_1 _]) σ (av_fr.rf _ _)
      try dsimp only at e
      rw [show f_X8_heir_35 lb_N (nI t) (nI m) (0 : Int32) (-1 : Int32) (0 : Int32) σ = f_X8_heir_35 lb_N (nI t) (nI m) (0 : Int32) (-1 : Int32) (nI 0) σ from rfl, e, f_X8_heir_35, (hc.fr0 hQ).1.nn, if_pos (by rw [lb_le (by omega) (by omega)]; omega)]
      exact hc.fr hQ
    · unfold f_X9_heir
      rw [pn_isPot hm hv, lb_ifn hp, pn_wrongBy, hq, f_X9_heir_19, lb_if0]
      obtain ⟨n, σ', hQ, e⟩ := lb_scan (fun n i b x σ => f_X9_heir_40 n (nI t) (nI m) x b (nI i) σ) (fun q => nI (av_al7 (av_st S 5 t q) m)) nI (fun σ' => av_fk 55 σ σ') (S 8 1) lb_N (by rw [lb_N300]; omega) (-1) (-9)
        (fun n i b' x' σ' hi _ hQ => by
          have hm' := hm.fk0 hQ
          obtain ⟨s1, e1, f1⟩ := pn_given hm' hv h8 hi (show m ≤ 60 by omega)
          refine ⟨s1, hQ.tr f1, ?_⟩
          try dsimp only
          rw [f_X9_heir_40, show (1 : Int32).toNatClampNeg = 1 from rfl, hm'.1.nn, if_neg (by rw [lb_le (by omega) (by omega)]; omega), e1, lb_bndS, show nI i + 1 = nI (i + 1) from nI_1 _, lb_ltle]) σ (av_fk.rf _ _)
      try dsimp only at e
      rw [show f_X9_heir_40 lb_N (nI t) (nI m) (-9 : Int32) (-1 : Int32) (0 : Int32) σ = f_X9_heir_40 lb_N (nI t) (nI m) (-9 : Int32) (-1 : Int32) (nI 0) σ from rfl, e, f_X9_heir_40, show (1 : Int32).toNatClampNeg = 1 from rfl, (hm.fk0 hQ).1.nn, if_pos (by rw [lb_le (by omega) (by omega)]; omega), bs_x hne (-9) 0 _ h0]
      exact hm.fk hQ
  · refine rs_rg hw hj (fun σ hc => ?_) (fun σ hm => ?_)
    · try dsimp only
      unfold f_X8_heir
      rw [pc_two7 hc, lb_letS]
      exact pc_else hc hj (ft_f7 (ft_p7 _ _) (ft_w7 _ _ _))
    · try dsimp only
      unfold f_X9_heir
      rw [pn_isPot hm hv]
      by_cases hp : ft_p S x1 = 0
      · rw [ft_fz hp] at hj ⊢
        rw [lb_ifn hp, pn_wrongBy, f_X9_heir_19]
        exact pn_else hm hj (ft_w7 _ _ _)
      · rw [ft_fn hp, lb_if1 hp, f_X9_heir_19, ft_p1 hp]
        exact pn_else hm (j := 1) (by decide) (by decide)
