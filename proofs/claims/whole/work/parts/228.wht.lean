def wi_V (S : av_V) (c t j : Nat) : av_V := if c = 0 then av_st S 2 t j else av_st S 0 t j
theorem wi_W {S : av_V} (hv : av_W S) {c t j : Nat} (hj : j < 6) : av_W (wi_V S c t j) := by
  unfold wi_V
  split
  · exact hv.set (by omega)
  · exact hv.set (by omega)
theorem wi_o {S : av_V} {c t j a i : Nat} (h2 : a ≠ 2) (h0 : a ≠ 0) : wi_V S c t j a i = S a i := by
  unfold wi_V
  split
  · exact av_st_a _ h2 _ _ _
  · exact av_st_a _ h0 _ _ _
/-- where a row parts from what comes -/
def wi_P (S V : av_V) (o i : Nat) : Bool := decide (¬ av_p V o i 7 o = S 11 i)
def wi_g (S V : av_V) (o n : Nat) : Nat := lb_sum (fun _ => 0) (fun _ => 1) (av_fi (wi_P S V o) n)
theorem wi_g1 (S V : av_V) (o n : Nat) : wi_g S V o (n + 1) = if wi_P S V o n = true then 0 else wi_g S V o n := by
  unfold wi_g
  cases ho : av_fi (wi_P S V o) n with
  | inl t => rw [av_fi_l ho, lb_sum_l]; split <;> rfl
  | inr u =>
    rw [av_fi_r ho]
    by_cases c : wi_P S V o n = true
    · rw [if_pos c, if_pos c]; rfl
    · rw [if_neg c, if_neg c]
theorem wi_g01 (S V : av_V) (o n : Nat) : wi_g S V o n = 0 ∨ wi_g S V o n = 1 := by
  unfold wi_g
  cases av_fi (wi_P S V o) n with
  | inl t => exact Or.inl rfl
  | inr u => exact Or.inr rfl
theorem pc_goes {s : lb_Mem} {S V : av_V} (hc : rs_C s S) (hw : rs_W S) (h : av_C 17 s V) (hv : av_W V) {o : Nat} (ho : o < 5) : ∃ σ1, f_X8_goesAsRow (nI o) s = some (nI (wi_g S V o (S 9 2)), σ1) ∧ av_fr 17 s σ1 := by
  have hr := hw.2.2.2.2.2.2.1
  have hr9 := hw.2.2.2.2.2.2.2.2
  unfold f_X8_goesAsRow wi_g
  rw [lb_k0]
  rcases lb_loopF (fun n (s : Int32 × lb_Mem) => f_X8_goesAsRow_2 n (nI o) s.1 s.2) (fun i s' => s'.1 = nI i ∧ av_C 17 s'.2 (av_p V o i) ∧ av_fr 17 s s'.2) (wi_P S V o) (S 9 2) lb_N (by rw [lb_N300]; omega)
    (fun n i s' hi hI hP => by
      obtain ⟨x, σ'⟩ := s'
      obtain ⟨i1, i2, i3⟩ := hI
      dsimp only at i1 i2 i3 ⊢
      subst i1
      obtain ⟨s2, e2, h2, f2⟩ := pc_year1 i2 hv ho
      have hc' := hc.fr0 i3
      have hP' : av_p V o i 7 o = S 11 i := Classical.byContradiction (of_decide_eq_false hP)
      refine ⟨(nI (i + 1), s2), ⟨rfl, h2, i3.tr f2⟩, ?_⟩
      rw [f_X8_goesAsRow_2, hc'.2.2.2.2.1, if_neg (by rw [lb_le (by omega) (by omega)]; omega), lb_ixN ho (by decide), lb_ixN (show i < 16 by omega) (by decide), lb_chkT, lb_chkT, lb_cl (by omega), lb_cl (by omega), show σ' 32 o = nI (av_p V o i 7 o) from i2.r7 o ho, hc'.2.2.2.2.2.2.1 i (by omega), if_pos (by rw [hP']), e2, lb_bndS, show nI i + 1 = nI (i + 1) from nI_1 _]) (nI 0, s) ⟨rfl, h, av_fr.rf _ _⟩ with ⟨y, e0, hy, hP, n, s', ⟨i1, i2, i3⟩, e⟩ | ⟨e0, n, s', ⟨i1, i2, i3⟩, e⟩
  · obtain ⟨x, σ'⟩ := s'
    dsimp only at i1 i2 i3 e
    subst i1
    have hc' := hc.fr0 i3
    have hP' : ¬ av_p V o y 7 o = S 11 y := of_decide_eq_true hP
    have b1 := ((hv.p o y).2.2.2.2 o ho).2
    have b2 := hr9 y
    refine ⟨σ', ?_, i3⟩
    rw [e0, lb_sum_l, e, f_X8_goesAsRow_2, hc'.2.2.2.2.1, if_neg (by rw [lb_le (by omega) (by omega)]; omega), lb_ixN ho (by decide), lb_ixN (show y < 16 by omega) (by decide), lb_chkT, lb_chkT, lb_cl (by omega), lb_cl (by omega), show σ' 32 o = nI (av_p V o y 7 o) from i2.r7 o ho, hc'.2.2.2.2.2.2.1 y (by omega), if_neg (by rw [lb_eq (by omega) (by omega)]; exact hP')]
    rfl
  · obtain ⟨x, σ'⟩ := s'
    dsimp only at i1 i2 i3 e
    subst i1
    refine ⟨σ', ?_, i3⟩
    rw [e0, lb_sum_r, e, f_X8_goesAsRow_2, (hc.fr0 i3).2.2.2.2.1, if_pos (by rw [lb_le (by omega) (by omega)]; omega)]
    rfl
def wi_b (S : av_V) (c t : Nat) (j : Nat) : Bool := decide (wi_g S (wi_V S c t j) (S 5 t) (S 9 2) = 1)
theorem pn_goes {s : lb_Mem} {S V : av_V} (hm : rs_M s S) (hw : rs_W S) (h : av_M 55 s V) (hv : av_W V) {o : Nat} (ho : o < V 8 1) (kc : Int32 → Int32 → Int32 → Int32 → Int32 → lb_Mem → Option (Int32 × lb_Mem)) (x1 x2 : Int32) (B : Nat) {j : Nat} (hj : j < 6) : ∃ σ1, f_X9_whatIn_100 kc lb_N x1 x2 (nI o) (nI B) (nI j) (1 : Int32) (0 : Int32) s = kc x1 x2 (nI o) (nI (if wi_g S V o (S 9 2) = 1 then B ||| 2 ^ j else B)) (nI (j + 1)) σ1 ∧ av_fk 55 s σ1 := by
  have hr := hw.2.2.2.2.2.2.1
  have hr9 := hw.2.2.2.2.2.2.2.2
  have ho5 : o < 5 := by have := hv.2.1; omega
  obtain ⟨n, s', ⟨i0, i1, i2, i3⟩, e⟩ := lb_loopR (fun n (s : Int32 × Int32 × lb_Mem) => f_X9_whatIn_100 kc n x1 x2 (nI o) (nI B) (nI j) s.1 s.2.1 s.2.2) (fun i s' => s'.1 = nI (wi_g S V o i) ∧ s'.2.1 = nI i ∧ av_M 55 s'.2.2 (av_ys V i) ∧ av_fk 55 s s'.2.2) (S 9 2) lb_N (by rw [lb_N300]; omega)
    (fun n i s' hi hI => by
      obtain ⟨w, x, σ'⟩ := s'
      obtain ⟨i0, i1, i2, i3⟩ := hI
      dsimp only at i0 i1 i2 i3 ⊢
      subst i0 i1
      obtain ⟨s2, e2, h2, f2⟩ := pm_year i2 (hv.ys i)
      have hm' := hm.fk0 i3
      have b1 := ((hv.p o i).2.2.2.2 o ho5).2
      have b2 := hr9 i
      have h01 := wi_g01 S V o i
      refine ⟨(nI (wi_g S V o (i + 1)), nI (i + 1), s2), ⟨rfl, rfl, h2, i3.tr f2⟩, ?_⟩
      rw [f_X9_whatIn_100, hm'.2.2.2.2.1, if_neg (by rw [lb_le (by omega) (by omega)]; omega), show f_X9_ofP (nI o) (1 : Int32) = nI (51 + 2 * o + 1) from pm_oP o 1, lb_ixN (show 51 + 2 * o + 1 < 61 by omega) (by decide), lb_ixN (show i < 16 by omega) (by decide), lb_chkT, lb_chkT, lb_cl (by omega), lb_cl (by omega), i2.p1 o ho5, (av_ys_al ho i).2.2.2.1, hm'.2.2.2.2.2.2.1 i (by omega), wi_g1]
      by_cases c : av_p V o i 7 o = S 11 i
      · rw [if_pos (by rw [c]), if_neg (show ¬ wi_P S V o i = true from fun z => of_decide_eq_true z c), f_X9_whatIn_136, lb_letS, e2, lb_bndS, show nI i + 1 = nI (i + 1) from nI_1 _, show nI (wi_g S V o i) &&& (1 : Int32) = nI (wi_g S V o i) by rcases h01 with z | z <;> rw [z] <;> decide]
      · rw [if_neg (by rw [lb_eq (by omega) (by omega)]; exact c), if_pos (show wi_P S V o i = true from decide_eq_true c), f_X9_whatIn_136, lb_letS, e2, lb_bndS, show nI i + 1 = nI (i + 1) from nI_1 _, show nI (wi_g S V o i) &&& (0 : Int32) = nI 0 by rcases h01 with z | z <;> rw [z] <;> decide]) (1, nI 0, s) ⟨rfl, rfl, h, av_fk.rf _ _⟩
  obtain ⟨w, x, σ'⟩ := s'
  dsimp only at i0 i1 i2 i3 e
  subst i0 i1
  refine ⟨σ', ?_, i3⟩
  rw [lb_k0, e, f_X9_whatIn_100, (hm.fk0 i3).2.2.2.2.1, if_pos (by rw [lb_le (by omega) (by omega)]; omega), show (1 : Int32) <<< (nI j &&& 31) = nI (2 ^ j) from lb_shl (by omega), show nI j + 1 = nI (j + 1) from nI_1 _, lb_letS, lb_letS, lb_or1, lb_k0, lb_or1, Nat.or_zero]
  rcases wi_g01 S V o (S 9 2) with z | z
  · rw [z, if_pos rfl, if_neg (by decide)]
  · rw [z, if_neg (by decide), if_pos rfl]
theorem st_whatIn : lb_st_whatIn rs_R := by
  intro σ x1 x2 h
  refine rs_go (f8 := fun σ => f_X8_whatIn x1 x2 σ) (f9 := fun σ => f_X9_whatIn x1 x2 σ) h (fun S hw => ?_)
  have hv := hw.1
  have hn := hv.1
  have hn1 := hv.2.1
  by_cases hj : ft_f (ft_p S x1) (ft_k x2 1) = 0
  · obtain ⟨hp, hk⟩ := ft_f0 hj
    obtain ⟨t, ht, rfl⟩ := ft_p0 hv hp
    obtain ⟨c, hc1, rfl⟩ := ft_k0 (m := 1) (by decide) hk
    have t8 : t < 8 := by omega
    have ho1 := hv.2.2.2.1 t ht
    have ho5 : S 5 t < 5 := by omega
    have h00 : (nI c = (0 : Int32)) ↔ c = 0 := by rw [lb_k0, lb_eq (by omega) (by omega)]
    refine ⟨nI (av_bt (wi_b S c t) id 6), S, hw, fun σ hc => ?_, fun σ hm => ?_⟩
    · unfold f_X8_whatIn
      rw [pc_potThere hc, pc_known, pc_first (ft_p7 _ _), hj, lb_letS, lb_if0]
      have e0 : (if nI c = 0 then f_X8_whatIn_43 lb_N (nI t) (nI c) (6 : Int32) (0 : Int32) (0 : Int32) σ else f_X8_whatIn_43 lb_N (nI t) (nI c) (6 : Int32) (0 : Int32) (0 : Int32) σ) = f_X8_whatIn_43 lb_N (nI t) (nI c) (6 : Int32) (nI 0) (nI 0) σ := by split <;> rfl
      rw [e0]
      obtain ⟨n, s, ⟨i0, i1, i3⟩, e⟩ := lb_loopR (fun n (s : Int32 × Int32 × lb_Mem) => f_X8_whatIn_43 n (nI t) (nI c) (6 : Int32) s.1 s.2.1 s.2.2) (fun i s => s.1 = nI (av_bt (wi_b S c t) id i) ∧ s.2.1 = nI i ∧ av_fr 17 σ s.2.2) 6 lb_N (by decide)
        (fun n i s hi hI => by
          obtain ⟨w, x, σ'⟩ := s
          obtain ⟨i0, i1, i3⟩ := hI
          dsimp only at i0 i1 i3 ⊢
          subst i0 i1
          have hc' := hc.fr0 i3
          obtain ⟨s1, e1, h1, f1⟩ := pc_mind hc'
          have key : ∃ s2, av_C 17 s2 (wi_V S c t i) ∧ av_fr 17 σ' s2 ∧ f_X8_whatIn_43 (n + 1) (nI t) (nI c) (6 : Int32) (nI (av_bt (wi_b S c t) id i)) (nI i) σ' = f_X8_whatIn_90 (fun (x1 : Int32) (x2 : Int32) (x4 : Int32) (x5 : Int32) (x6 : Int32) (σ : lb_Mem) => f_X8_whatIn_43 n x1 x2 x4 x5 x6 σ) (nI t) (nI c) (6 : Int32) (nI (av_bt (wi_b S c t) id i)) (nI i) s2 := by
            rw [f_X8_whatIn_43, if_neg (by rw [lb_k6, lb_le (by omega) (by omega)]; omega), e1, lb_bndS, lb_ixN t8 (by decide), lb_chkT, lb_chkT, lb_letS, lb_letS, lb_cl (by omega)]
            unfold wi_V
            by_cases c0 : c = 0
            · rw [if_pos (h00.mpr c0), if_pos c0]
              exact ⟨_, h1.set (a := 2) i (by decide) t8, f1.tr (av_fr.sto (by omega) (by omega)), rfl⟩
            · rw [if_neg (fun z => c0 (h00.mp z)), if_neg c0]
              exact ⟨_, h1.set (a := 0) i (by decide) t8, f1.tr (av_fr.sto (by omega) (by omega)), rfl⟩
          obtain ⟨s2, h2, f2, e2⟩ := key
          obtain ⟨s3, e3, f3⟩ := pc_goes (hc'.fr0 f2) hw h2 (wi_W hv hi) ho5
          refine ⟨(nI (av_bt (wi_b S c t) id (i + 1)), nI (i + 1), s3), ⟨rfl, rfl, i3.tr (f2.tr f3)⟩, ?_⟩
          rw [e2, f_X8_whatIn_90, lb_ixN t8 (by decide), lb_chkT, lb_cl (by omega), show s2 30 t = nI (wi_V S c t i 5 t) from h2.r5 t t8, wi_o (by decide) (by decide), e3, lb_bndS, show nI i + 1 = nI (i + 1) from nI_1 _, show (1 : Int32) <<< (nI i &&& 31) = nI (2 ^ i) from lb_shl (by omega), lb_or1, lb_letS, av_bt]
          rcases wi_g01 S (wi_V S c t i) (S 5 t) (S 9 2) with z | z
          · rw [if_neg (show ¬ wi_b S c t i = true by unfold wi_b; rw [z]; decide)]
            dsimp only
            rw [z, if_pos (show nI 0 = 0 from rfl)]
          · rw [if_pos (show wi_b S c t i = true by unfold wi_b; rw [z]; rfl)]
            dsimp only
            rw [z, if_neg (show ¬ nI 1 = 0 by decide)]
            rfl) (nI 0, nI 0, σ) ⟨rfl, rfl, av_fr.rf _ _⟩
      obtain ⟨w, x, σ'⟩ := s
      dsimp only at i0 i1 i3 e
      subst i0 i1
      rw [e, f_X8_whatIn_43, if_pos (by decide)]
      exact hc.fr i3
    · unfold f_X9_whatIn
      rw [pn_isPot hm hv, lb_ifn hp, pn_isIn0, lb_ifn ((ft_kl _ _).mp hk), show f_X9_ofT (nI t) (5 : Int32) = nI (3 + 6 * t + 5) from pm_oT t 5, lb_ixN (show 3 + 6 * t + 5 < 61 by omega) (by decide), lb_chkT, lb_letS, lb_cl (by omega), hm.1.t5 t t8, lb_k0]
      obtain ⟨n, s, ⟨i0, i1, i3⟩, e⟩ := lb_loopR (fun n (s : Int32 × Int32 × lb_Mem) => f_X9_whatIn_47 n (nI t) (nI c) (nI (S 5 t)) s.1 s.2.1 s.2.2) (fun i s => s.1 = nI (av_bt (wi_b S c t) id i) ∧ s.2.1 = nI i ∧ av_fk 55 σ s.2.2) 6 lb_N (by decide)
        (fun n i s hi hI => by
          obtain ⟨w, x, σ'⟩ := s
          obtain ⟨i0, i1, i3⟩ := hI
          dsimp only at i0 i1 i3 ⊢
          subst i0 i1
          have hm' := hm.fk0 i3
          obtain ⟨s1, e1, h1, f1⟩ := pn_copy hm'
          have key : ∃ s2, av_M 55 s2 (wi_V S c t i) ∧ av_fk 55 σ' s2 ∧ f_X9_whatIn_47 (n + 1) (nI t) (nI c) (nI (S 5 t)) (nI (av_bt (wi_b S c t) id i)) (nI i) σ' = f_X9_whatIn_100 (fun (x1 : Int32) (x2 : Int32) (x3 : Int32) (x4 : Int32) (x5 : Int32) (σ : lb_Mem) => f_X9_whatIn_47 n x1 x2 x3 x4 x5 σ) lb_N (nI t) (nI c) (nI (S 5 t)) (nI (av_bt (wi_b S c t) id i)) (nI i) (1 : Int32) (0 : Int32) s2 := by
            rw [f_X9_whatIn_47]
            unfold f_X9_whatIn_60 f_X9_whatIn_91
            rw [if_neg (show ¬ (6 : Int32) ≤ nI i by rw [lb_k6, lb_le (by omega) (by omega)]; omega), e1, lb_bndS, show f_X9_ofT (nI t) (2 : Int32) = nI (3 + 6 * t + 2) from pm_oT t 2, show f_X9_ofT (nI t) (0 : Int32) = nI (3 + 6 * t + 0) from pm_oT t 0, lb_ixN (show 3 + 6 * t + 2 < 61 by omega) (by decide), lb_ixN (show 3 + 6 * t + 0 < 61 by omega) (by decide), lb_chkT, lb_chkT, lb_letS, lb_letS, lb_cl (show 3 + 6 * t + 2 < 2147483648 by omega), lb_cl (show 3 + 6 * t + 0 < 2147483648 by omega)]
            unfold wi_V
            by_cases c0 : c = 0
            · rw [if_pos (h00.mpr c0), if_pos (h00.mpr c0), if_pos c0]
              exact ⟨_, h1.setT (a := 2) (t := t) i (by decide) t8, f1.tr av_fk.sto, rfl⟩
            · rw [if_neg (fun z => c0 (h00.mp z)), if_neg (fun z => c0 (h00.mp z)), if_neg c0]
              exact ⟨_, h1.setT (a := 0) (t := t) i (by decide) t8, f1.tr av_fk.sto, rfl⟩
          obtain ⟨s2, h2, f2, e2⟩ := key
          obtain ⟨s3, e3, f3⟩ := pn_goes (hm'.fk0 f2) hw h2 (wi_W hv hi) (o := S 5 t) (by rw [wi_o (by decide) (by decide)]; exact ho1) (fun (x1 : Int32) (x2 : Int32) (x3 : Int32) (x4 : Int32) (x5 : Int32) (σ : lb_Mem) => f_X9_whatIn_47 n x1 x2 x3 x4 x5 σ) (nI t) (nI c) (av_bt (wi_b S c t) id i) hi
          refine ⟨(nI (av_bt (wi_b S c t) id (i + 1)), nI (i + 1), s3), ⟨rfl, rfl, i3.tr (f2.tr f3)⟩, ?_⟩
          rw [e2, e3, av_bt]
          rcases wi_g01 S (wi_V S c t i) (S 5 t) (S 9 2) with z | z
          · rw [if_neg (show ¬ wi_b S c t i = true by unfold wi_b; rw [z]; decide), z, if_neg (by decide)]
          · rw [if_pos (show wi_b S c t i = true by unfold wi_b; rw [z]; rfl), z, if_pos rfl]
            rfl) (nI 0, nI 0, σ) ⟨rfl, rfl, av_fk.rf _ _⟩
      obtain ⟨w, x, σ'⟩ := s
      dsimp only at i0 i1 i3 e
      subst i0 i1
      rw [e, f_X9_whatIn_47]
      unfold f_X9_whatIn_60
      rw [if_pos (show (6 : Int32) ≤ nI 6 by decide)]
      have : ∀ (A : Option (Int32 × lb_Mem)), (if nI c = 0 then A else A) = A := fun A => by split <;> rfl
      rw [this]
      exact hm.fk i3
  · refine rs_rg hw hj (fun σ hc => ?_) (fun σ hm => ?_)
    · try dsimp only
      unfold f_X8_whatIn
      rw [pc_potThere hc, pc_known, pc_first (ft_p7 _ _), lb_letS]
      exact pc_else hc hj (ft_f7 (ft_p7 _ _) (ft_k7 _ _))
    · try dsimp only
      unfold f_X9_whatIn
      rw [pn_isPot hm hv]
      by_cases hp : ft_p S x1 = 0
      · rw [ft_fz hp] at hj ⊢
        rw [lb_ifn hp, pn_isIn0, lb_if1 (fun z => hj ((ft_kl _ _).mpr z)), ft_k2 hj]
        exact (pn_no2 hm).bid
      · rw [ft_fn hp, lb_if1 hp, ft_p1 hp]
        exact (pn_no1 hm).bid
