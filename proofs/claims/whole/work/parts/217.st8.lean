def sh_i (S : av_V) (p : Nat) (x : Int32) (l c : Nat) : Nat → Nat ⊕ Nat
  | 0 => .inr c
  | i + 1 => match sh_i S p x l c i with
    | .inl t => .inl t
    | .inr c' => if S 5 i = p ∧ S 3 i = l then (if nI c' = x then .inl i else .inr (c' + 1)) else .inr c'
def sh_o (S : av_V) (p : Nat) (x : Int32) : Nat → Nat ⊕ Nat
  | 0 => .inr 0
  | l + 1 => match sh_o S p x l with
    | .inl t => .inl t
    | .inr c => sh_i S p x l c (S 8 0)
theorem sh_i_l {S : av_V} {p l c i t : Nat} {x : Int32} (h : sh_i S p x l c i = .inl t) : sh_i S p x l c (i + 1) = .inl t := by rw [sh_i, h]
theorem sh_i_r {S : av_V} {p l c i c' : Nat} {x : Int32} (h : sh_i S p x l c i = .inr c') : sh_i S p x l c (i + 1) = if S 5 i = p ∧ S 3 i = l then (if nI c' = x then .inl i else .inr (c' + 1)) else .inr c' := by rw [sh_i, h]
theorem sh_o_l {S : av_V} {p l t : Nat} {x : Int32} (h : sh_o S p x l = .inl t) : sh_o S p x (l + 1) = .inl t := by rw [sh_o, h]
theorem sh_o_r {S : av_V} {p l c : Nat} {x : Int32} (h : sh_o S p x l = .inr c) : sh_o S p x (l + 1) = sh_i S p x l c (S 8 0) := by rw [sh_o, h]
theorem pc_shelf_in {σ : lb_Mem} {S : av_V} (hc : rs_C σ S) (hv : av_W S) {p l c : Nat} (hp : p < 5) (hl : l ≤ 6) (x : Int32) (kc : Int32 → Int32 → Int32 → Int32 → lb_Mem → Option (Int32 × lb_Mem)) : f_X8_shelf_45 kc lb_N (nI p) x (nI c) (nI l) (0 : Int32) σ = lb_sum (fun t => some (nI t, σ)) (fun c' => kc (nI p) x (nI c') (nI (l + 1)) σ) (sh_i S p x l c (S 8 0)) := by
  have hn := hv.1
  refine lb_loopE (fun n i a => f_X8_shelf_45 kc n (nI p) x (nI a) (nI l) (nI i) σ) (sh_i S p x l c) _ _ (S 8 0) lb_N (by rw [lb_N300]; omega) (fun i b _ hb => sh_i_l hb) (fun n i a hi ha => ?_) (fun n a ha => ?_) c rfl
  · show f_X8_shelf_45 kc (n + 1 + 1) _ _ _ _ _ _ = _
    have h8 : i < 8 := by omega
    have hb := hv.2.2.1 i h8
    rw [f_X8_shelf_45, hc.1.np, if_neg (by rw [lb_le (by omega) (by omega)]; omega), lb_ixN h8 (by decide), lb_chkT, lb_chkT, lb_cl (by omega), show σ 14 i = nI (S 5 i) from hc.1.r5 i h8, show σ 12 i = nI (S 3 i) from hc.1.r3 i h8, show nI i + 1 = nI (i + 1) from nI_1 i, show nI a + 1 = nI (a + 1) from nI_1 a, sh_i_r ha]
    by_cases c1 : S 5 i = p
    · rw [if_pos (show nI (S 5 i) = nI p by rw [c1])]
      by_cases c2 : S 3 i = l
      · rw [if_pos (show nI (S 3 i) = nI l by rw [c2]), if_pos (show S 5 i = p ∧ S 3 i = l from ⟨c1, c2⟩)]
        by_cases c3 : nI a = x
        · rw [if_pos c3, if_pos c3, lb_sum_l]
        · rw [if_neg c3, if_neg c3, lb_sum_r]
      · rw [if_neg (by rw [lb_eq (by omega) (by omega)]; exact c2), if_neg (show ¬ (S 5 i = p ∧ S 3 i = l) from fun z => c2 z.2), lb_sum_r]
    · rw [if_neg (by rw [lb_eq (by omega) (by omega)]; exact c1), if_neg (show ¬ (S 5 i = p ∧ S 3 i = l) from fun z => c1 z.1), lb_sum_r]
  · show f_X8_shelf_45 kc (n + 1) _ _ _ _ _ _ = _
    rw [f_X8_shelf_45, hc.1.np, if_pos (by rw [lb_le (by omega) (by omega)]; omega), show nI l + 1 = nI (l + 1) from nI_1 l]
theorem lb_sbs (x : Int32) (a : Nat) : x - nI a + -1 = x - nI (a + 1) := by
  rw [show nI (a + 1) = nI a + 1 from (nI_1 a).symm, Int32.sub_eq_add_neg, Int32.sub_eq_add_neg, Int32.neg_add, Int32.sub_eq_add_neg, Int32.add_assoc]
theorem lb_sbz (x y : Int32) : (x - y = 0) = (y = x) := by
  apply propext
  constructor
  · intro h
    have : x - y + y = 0 + y := by rw [h]
    rw [Int32.sub_add_cancel, Int32.zero_add] at this
    exact this.symm
  · intro h; rw [h, Int32.sub_self]
theorem pn_shelf_in {σ : lb_Mem} {S : av_V} (hm : rs_M σ S) (hv : av_W S) {p l c : Nat} (hp : p < 5) (hl : l ≤ 6) (x : Int32) (kc : Int32 → Int32 → Int32 → lb_Mem → Option (Int32 × lb_Mem)) : f_X9_shelf_40 kc lb_N (nI p) (x - nI c) (nI l) (0 : Int32) σ = lb_sum (fun t => some (nI t, σ)) (fun c' => kc (nI p) (x - nI c') (nI (l + 1)) σ) (sh_i S p x l c (S 8 0)) := by
  have hn := hv.1
  refine lb_loopE (fun n i a => f_X9_shelf_40 kc n (nI p) (x - nI a) (nI l) (nI i) σ) (sh_i S p x l c) _ _ (S 8 0) lb_N (by rw [lb_N300]; omega) (fun i b _ hb => sh_i_l hb) (fun n i a hi ha => ?_) (fun n a ha => ?_) c rfl
  · show f_X9_shelf_40 kc (n + 1 + 1) _ _ _ _ _ = _
    have h8 : i < 8 := by omega
    have hb := hv.2.2.1 i h8
    rw [f_X9_shelf_40, show (0 : Int32).toNatClampNeg = 0 from rfl, hm.1.np, if_neg (by rw [lb_le (by omega) (by omega)]; omega), show f_X9_ofT (nI i) (5 : Int32) = nI (3 + 6 * i + 5) from pm_oT i 5, show f_X9_ofT (nI i) (3 : Int32) = nI (3 + 6 * i + 3) from pm_oT i 3, lb_ixN (show 3 + 6 * i + 5 < 61 by omega) (by decide), lb_ixN (show 3 + 6 * i + 3 < 61 by omega) (by decide), lb_chkT, lb_chkT, lb_cl (by omega), lb_cl (by omega), hm.1.t5 i h8, hm.1.t3 i h8, show nI i + 1 = nI (i + 1) from nI_1 i, show x - nI a + -1 = x - nI (a + 1) from lb_sbs x a, sh_i_r ha]
    by_cases c1 : S 5 i = p
    · rw [if_pos (show nI (S 5 i) = nI p by rw [c1])]
      by_cases c2 : S 3 i = l
      · rw [if_pos (show nI (S 3 i) = nI l by rw [c2]), if_pos (show S 5 i = p ∧ S 3 i = l from ⟨c1, c2⟩)]
        by_cases c3 : nI a = x
        · rw [if_pos c3, if_pos (by rw [lb_sbz]; exact c3), lb_sum_l]
        · rw [if_neg c3, if_neg (by rw [lb_sbz]; exact c3), lb_sum_r]
      · rw [if_neg (by rw [lb_eq (by omega) (by omega)]; exact c2), if_neg (show ¬ (S 5 i = p ∧ S 3 i = l) from fun z => c2 z.2), lb_sum_r]
    · rw [if_neg (by rw [lb_eq (by omega) (by omega)]; exact c1), if_neg (show ¬ (S 5 i = p ∧ S 3 i = l) from fun z => c1 z.1), lb_sum_r]
  · show f_X9_shelf_40 kc (n + 1) _ _ _ _ _ = _
    rw [f_X9_shelf_40, show (0 : Int32).toNatClampNeg = 0 from rfl, hm.1.np, if_pos (by rw [lb_le (by omega) (by omega)]; omega), show nI l + 1 = nI (l + 1) from nI_1 l]
def ft_s (x : Int32) : Nat := if 0 ≤ x then 0 else 4
theorem ft_s7 (x : Int32) : ft_s x < 7 := by unfold ft_s; split <;> omega
theorem ft_s4 {x : Int32} (h : ¬ ft_s x = 0) : ft_s x = 4 := by unfold ft_s at h ⊢; split <;> simp_all
theorem ft_s0 {x : Int32} (h : ft_s x = 0) : 0 ≤ x := by
  unfold ft_s at h
  by_cases c : 0 ≤ x
  · exact c
  · rw [if_neg c] at h; cases h
theorem ft_sn {x : Int32} (h : ¬ ft_s x = 0) : ¬ 0 ≤ x := fun z => h (if_pos z)
theorem pc_shelf0 {σ : lb_Mem} {S : av_V} (hc : rs_C σ S) (x1 x2 : Int32) : f_X8_shelf x1 x2 σ = f_X8_shelf_15 x1 x2 σ (-(nI (ft_q S x1))) (-(nI (ft_s x2))) := by
  unfold f_X8_shelf ft_s
  rw [pc_personThere hc]
  by_cases c : 0 ≤ x2
  · rw [if_pos c, if_pos c]; rfl
  · rw [if_neg c, if_neg c]; rfl
theorem st_shelf : lb_st_shelf rs_R := by
  intro σ x1 x2 h
  refine rs_go (f8 := fun σ => f_X8_shelf x1 x2 σ) (f9 := fun σ => f_X9_shelf x1 x2 σ) h (fun S hw => ?_)
  have hv := hw.1
  have hn := hv.1
  by_cases hj : ft_f (ft_q S x1) (ft_s x2) = 0
  · obtain ⟨hq, hs⟩ := ft_f0 hj
    obtain ⟨p, hp, rfl⟩ := ft_q0 hv hq
    have h5 : p < 5 := by have := hv.2.1; omega
    refine ⟨lb_sum nI (fun _ => (-9 : Int32)) (sh_o S p x2 7), S, hw, fun σ hc => ?_, fun σ hm => ?_⟩
    · try dsimp only
      rw [pc_shelf0 hc, f_X8_shelf_15, pc_first (ft_q7 _ _), hj, lb_letS, lb_if0]
      have e : f_X8_shelf_35 lb_N (nI p) x2 (0 : Int32) (0 : Int32) σ = some (lb_sum nI (fun _ => (-9 : Int32)) (sh_o S p x2 7), σ) := by
        refine (lb_loopE (fun n i a => f_X8_shelf_35 n (nI p) x2 (nI a) (nI i) σ) (sh_o S p x2) (fun t => some (nI t, σ)) (fun _ => some ((-9 : Int32), σ)) 7 lb_N (by decide) (fun i b _ hb => sh_o_l hb) (fun n i a hi ha => ?_) (fun n a ha => ?_) 0 rfl).trans ?_
        · show f_X8_shelf_35 (n + 1 + 1) _ _ _ _ _ = _
          rw [f_X8_shelf_35, if_neg (by rw [lb_k6, lb_lt (by omega) (by omega)]; omega), pc_shelf_in hc hv h5 (by omega), sh_o_r ha]
        · show f_X8_shelf_35 (n + 1) _ _ _ _ _ = _
          rw [f_X8_shelf_35, if_pos (by decide)]
        · cases sh_o S p x2 7 <;> rfl
      rw [e]
      exact hc.same
    · unfold f_X9_shelf
      rw [pn_isPerson hm hv, lb_ifn hq, if_pos (ft_s0 hs)]
      have e : f_X9_shelf_30 lb_N (nI p) x2 (0 : Int32) σ = some (lb_sum nI (fun _ => (-9 : Int32)) (sh_o S p x2 7), σ) := by
        rw [show f_X9_shelf_30 lb_N (nI p) x2 (0 : Int32) σ = f_X9_shelf_30 lb_N (nI p) (x2 - nI 0) (nI 0) σ by rw [show nI 0 = (0 : Int32) from rfl, Int32.sub_zero]]
        refine (lb_loopE (fun n i a => f_X9_shelf_30 n (nI p) (x2 - nI a) (nI i) σ) (sh_o S p x2) (fun t => some (nI t, σ)) (fun _ => some ((-9 : Int32), σ)) 7 lb_N (by decide) (fun i b _ hb => sh_o_l hb) (fun n i a hi ha => ?_) (fun n a ha => ?_) 0 rfl).trans ?_
        · show f_X9_shelf_30 (n + 1 + 1) _ _ _ _ = _
          rw [f_X9_shelf_30, if_neg (by rw [lb_k6, lb_lt (by omega) (by omega)]; omega), pn_shelf_in hm hv h5 (by omega), sh_o_r ha]
        · show f_X9_shelf_30 (n + 1) _ _ _ _ = _
          rw [f_X9_shelf_30, if_pos (by decide)]
        · cases sh_o S p x2 7 <;> rfl
      rw [e]
      exact hm.same
  · refine rs_rg hw hj (fun σ hc => ?_) (fun σ hm => ?_)
    · try dsimp only
      rw [pc_shelf0 hc, f_X8_shelf_15, pc_first (ft_q7 _ _), lb_letS]
      exact pc_else hc hj (ft_f7 (ft_q7 _ _) (ft_s7 _))
    · try dsimp only
      unfold f_X9_shelf
      rw [pn_isPerson hm hv]
      by_cases hq : ft_q S x1 = 0
      · rw [ft_fz hq] at hj ⊢
        rw [lb_ifn hq, if_neg (ft_sn hj), ft_s4 hj]
        exact (pn_no4 hm).bid
      · rw [ft_fn hq, lb_if1 hq, ft_q1 hq]
        exact (pn_no1 hm).bid
theorem av_bt_bit {P : Nat → Bool} {g : Nat → Nat} (j : Nat) : ∀ n, (av_bt P g n).testBit j = true ↔ ∃ t, t < n ∧ P t = true ∧ g t = j
  | 0 => by rw [av_bt, Nat.zero_testBit]; constructor
            · intro h; cases h
            · rintro ⟨t, h, _⟩; omega
  | n + 1 => by
    rw [av_bt]
    by_cases c : P n = true
    · rw [if_pos c, Nat.testBit_or, Bool.or_eq_true, av_bt_bit j n, Nat.testBit_two_pow]
      constructor
      · rintro (⟨t, h1, h2⟩ | h)
        · exact ⟨t, by omega, h2⟩
        · exact ⟨n, by omega, c, by simpa using h⟩
      · rintro ⟨t, h1, h2, h3⟩
        by_cases e : t = n
        · subst e; right; simpa using h3
        · left; exact ⟨t, by omega, h2, h3⟩
    · rw [if_neg c, av_bt_bit j n]
      constructor
      · rintro ⟨t, h1, h2⟩; exact ⟨t, by omega, h2⟩
      · rintro ⟨t, h1, h2, h3⟩
        refine ⟨t, ?_, h2, h3⟩
        by_cases e : t = n
        · subst e; exact absurd h2 c
        · omega
theorem av_sm_pos {f : Nat → Nat} : ∀ n, 0 < av_sm f n ↔ ∃ t, t < n ∧ 0 < f t
  | 0 => by rw [av_sm]; constructor
            · intro h; omega
            · rintro ⟨t, h, _⟩; omega
  | n + 1 => by
    rw [av_sm]
    constructor
    · intro h
      by_cases c : 0 < f n
      · exact ⟨n, by omega, c⟩
      · obtain ⟨t, h1, h2⟩ := (av_sm_pos (f := f) n).mp (by omega); exact ⟨t, by omega, h2⟩
    · rintro ⟨t, h1, h2⟩
      by_cases e : t = n
      · subst e; omega
      · have := (av_sm_pos n).mpr ⟨t, by omega, h2⟩; omega
theorem av_held_by {V : av_V} (hw : av_W V) {n : Nat} (hn : n ≤ 8) : av_bt (fun x => decide (0 < av_so V x n)) id 6 = av_bt (fun t => decide (0 < V 4 t)) (V 2) n := by
  apply Nat.eq_of_testBit_eq
  intro j
  rw [Bool.eq_iff_iff, av_bt_bit, av_bt_bit]
  unfold av_so
  constructor
  · rintro ⟨x, h1, h2, rfl⟩
    obtain ⟨t, h3, h4⟩ := (av_sm_pos n).mp (of_decide_eq_true h2)
    refine ⟨t, h3, ?_⟩
    split at h4
    · rename_i e; exact ⟨decide_eq_true h4, e⟩
    · omega
  · rintro ⟨t, h1, h2, h3⟩
    have h6 := hw.2.2.1 t (by omega)
    refine ⟨j, by omega, decide_eq_true ((av_sm_pos n).mpr ⟨t, h1, ?_⟩), rfl⟩
    rw [if_pos h3]
    exact of_decide_eq_true h2
theorem pm_spoonsOf {σ : lb_Mem} {V : av_V} (h : av_M 54 σ V) (hw : av_W V) {x : Nat} (hx : x < 6) : f_X9_spoonsOf σ (nI x) = some (nI (av_so V x (V 8 0))) := by
  have hn := hw.1
  unfold f_X9_spoonsOf
  refine lb_loop (fun n i => f_X9_spoonsOf_4 σ n (nI x) (nI (av_so V x i)) (nI i)) (V 8 0) lb_N _ (by rw [lb_N300]; omega) (fun n i hi => ?_) (fun n => ?_)
  · show f_X9_spoonsOf_4 σ (n + 1) _ _ _ = _
    have hb := hw.2.2.1 i (by omega)
    rw [f_X9_spoonsOf_4]
    simp (disch := omega) only [lb_k0, lb_k1, lb_k2, lb_k3, lb_k4, lb_k5, lb_k6, lb_k7, lb_k8, lb_k9, lb_k10, lb_k11, lb_k12, lb_k13, lb_k14, lb_k15, lb_k16, lb_k19, lb_k20, lb_k30, lb_k31, lb_k48, lb_k51, lb_k55, lb_k59, lb_k60, lb_k61, lb_k63, lb_k96, lb_k98, lb_k99, lb_k100, lb_k102, lb_k103, lb_k104, lb_k106, lb_k107, lb_k108, lb_k112, lb_k115, lb_k116, lb_k121, lb_k255, lb_k256, lb_k999, lb_ixN, lb_chkT, lb_letS, lb_bndS, lb_cl, lb_le, lb_lt, lb_eq, lb_ad1, lb_sb1, lb_ml1, pm_oT, h.t2, h.t4, h.np]
    rw [if_neg (by omega)]
    unfold av_so
    rw [av_sm]
    by_cases c : V 2 i = x
    · rw [if_pos c, if_pos c]
    · rw [if_neg c, if_neg c]
  · show f_X9_spoonsOf_4 σ (n + 1) _ _ _ = _
    rw [f_X9_spoonsOf_4]
    simp (disch := omega) only [lb_k0, lb_k1, lb_k2, lb_k3, lb_k4, lb_k5, lb_k6, lb_k7, lb_k8, lb_k9, lb_k10, lb_k11, lb_k12, lb_k13, lb_k14, lb_k15, lb_k16, lb_k19, lb_k20, lb_k30, lb_k31, lb_k48, lb_k51, lb_k55, lb_k59, lb_k60, lb_k61, lb_k63, lb_k96, lb_k98, lb_k99, lb_k100, lb_k102, lb_k103, lb_k104, lb_k106, lb_k107, lb_k108, lb_k112, lb_k115, lb_k116, lb_k121, lb_k255, lb_k256, lb_k999, lb_ixN, lb_chkT, lb_letS, lb_bndS, lb_cl, lb_le, lb_lt, lb_eq, lb_ad1, lb_sb1, lb_ml1, h.np]
    rw [if_pos (Nat.le_refl _)]
theorem pm_sorts {σ : lb_Mem} {V : av_V} (h : av_M 54 σ V) (hw : av_W V) (x1 : Int32) : f_X9_sorts_26 lb_N x1 (0 : Int32) (0 : Int32) (0 : Int32) (0 : Int32) σ = f_X9_sorts_79 lb_N x1 (nI (av_bt (fun x => decide (0 < av_so V x (V 8 0))) id 6)) (nI (av_mx (fun x => av_so V x (V 8 0)) 6)) (0 : Int32) (0 : Int32) σ := by
  have hn := hw.1
  refine lb_loop (fun n i => f_X9_sorts_26 n x1 (nI (av_bt (fun x => decide (0 < av_so V x (V 8 0))) id i)) (nI (av_mx (fun x => av_so V x (V 8 0)) i)) (0 : Int32) (nI i) σ) 6 lb_N _ (by decide) (fun n i hi => ?_) (fun n => ?_)
  · show f_X9_sorts_26 (n + 1) _ _ _ _ _ _ = _
    have hs := av_so_le hw i (V 8 0) hn
    have hs2 := av_so_le hw (av_mx (fun x => av_so V x (V 8 0)) i) (V 8 0) hn
    have hx := av_mx_le (fun x => av_so V x (V 8 0)) i
    rw [f_X9_sorts_26, pm_spoonsOf h hw hi, lb_bndS, if_neg (by rw [lb_k6, lb_le (by omega) (by omega)]; omega)]
    have key : ∀ y0 y1 : Int32, f_X9_sorts_51 (fun (x1 : Int32) (x2 : Int32) (x3 : Int32) (x4 : Int32) (x5 : Int32) (σ : lb_Mem) => f_X9_sorts_26 n x1 x2 x3 x4 x5 σ) x1 (nI (av_mx (fun x => av_so V x (V 8 0)) i)) (0 : Int32) (nI i) σ y0 y1 = f_X9_sorts_26 n x1 (y0 ||| y1) (nI (av_mx (fun x => av_so V x (V 8 0)) (i + 1))) (0 : Int32) (nI (i + 1)) σ := by
      intro y0 y1
      unfold f_X9_sorts_51
      rw [lb_letS, pm_spoonsOf h hw hi, pm_spoonsOf h hw (show av_mx (fun x => av_so V x (V 8 0)) i < 6 by omega), lb_bndS, lb_bndS, show nI i + 1 = nI (i + 1) from nI_1 i, av_mx]
      by_cases c : av_so V i (V 8 0) ≤ av_so V (av_mx (fun x => av_so V x (V 8 0)) i) (V 8 0)
      · rw [if_pos c, if_pos (by rw [lb_le (by omega) (by omega)]; exact c)]
      · rw [if_neg c, if_neg (by rw [lb_le (by omega) (by omega)]; exact c)]
    rw [key, key, av_bt]
    by_cases c : 0 < av_so V i (V 8 0)
    · rw [if_neg (by rw [lb_k0, lb_le (by omega) (by omega)]; omega), if_pos (decide_eq_true c), show (1 : Int32) <<< (nI i &&& 31) = nI (2 ^ i) from lb_shl (by omega), lb_or1]; rfl
    · rw [if_pos (by rw [lb_k0, lb_le (by omega) (by omega)]; omega), if_neg (by simpa using c), lb_k0, lb_or1, Nat.or_zero]
  · show f_X9_sorts_26 (n + 1) _ _ _ _ _ _ = _
    rw [f_X9_sorts_26, if_pos (by decide)]
theorem pm_sortsL {σ : lb_Mem} {V : av_V} (h : av_M 54 σ V) (hw : av_W V) (x1 x2 x3 : Int32) : f_X9_sorts_79 lb_N x1 x2 x3 (0 : Int32) (0 : Int32) σ = if x1 = 0 then some (x2, σ) else if x1 = (1 : Int32) then some (x3, σ) else some ((nI (av_bt (fun t => decide (¬ V 3 t = 6)) (V 3) (V 8 0)) &&& (x2 ^^^ (-1 : Int32))), σ) := by
  have hn := hw.1
  refine lb_loop (fun n i => f_X9_sorts_79 n x1 x2 x3 (nI (av_bt (fun t => decide (¬ V 3 t = 6)) (V 3) i)) (nI i) σ) (V 8 0) lb_N _ (by rw [lb_N300]; omega) (fun n i hi => ?_) (fun n => ?_)
  · show f_X9_sorts_79 (n + 1) _ _ _ _ _ _ = _
    have hb := hw.2.2.1 i (by omega)
    rw [f_X9_sorts_79, show (0 : Int32).toNatClampNeg = 0 from rfl, h.np, if_neg (by rw [lb_le (by omega) (by omega)]; omega), show f_X9_ofT (nI i) (3 : Int32) = nI (3 + 6 * i + 3) from pm_oT i 3, lb_ixN (show 3 + 6 * i + 3 < 61 by omega) (by decide), lb_chkT, lb_chkT, lb_letS, lb_letS, lb_cl (by omega), h.t3 i (by omega), show nI i + 1 = nI (i + 1) from nI_1 i, show (1 : Int32) <<< (nI (V 3 i) &&& 31) = nI (2 ^ (V 3 i)) from lb_shl (by omega), lb_k0, lb_or1, lb_or1, Nat.or_zero, av_bt]
    by_cases c : V 3 i = 6
    · rw [if_pos (by rw [lb_k6, lb_le (by omega) (by omega)]; omega), if_neg (by simpa using c)]
    · rw [if_neg (by rw [lb_k6, lb_le (by omega) (by omega)]; omega), if_pos (by simpa using c)]
  · show f_X9_sorts_79 (n + 1) _ _ _ _ _ _ = _
    rw [f_X9_sorts_79, show (0 : Int32).toNatClampNeg = 0 from rfl, h.np, if_pos (by rw [lb_le (by omega) (by omega)]; omega)]
theorem st_sorts : lb_st_sorts rs_R := by
  intro σ x1 h
  refine rs_go (f8 := fun σ => f_X8_sorts x1 σ) (f9 := fun σ => f_X9_sorts x1 σ) h (fun S hw => ?_)
  have hv := hw.1
  have hn := hv.1
  by_cases hj : ft_k x1 2 = 0
  · refine ⟨if x1 = 0 then nI (av_bt (fun t => decide (0 < S 4 t)) (S 2) (S 8 0)) else if x1 = 1 then nI (av_mx (fun x => av_so S x (S 8 0)) 6) else nI (av_bt (fun t => decide (¬ S 3 t = 6)) (S 3) (S 8 0)) &&& (nI (av_bt (fun t => decide (0 < S 4 t)) (S 2) (S 8 0)) ^^^ (-1 : Int32)), S, hw, fun σ hc => ?_, fun σ hm => ?_⟩
    · unfold f_X8_sorts
      rw [pc_known, hj, lb_letS, lb_if0, pv_sortsHeld hc.1 hv, pv_mostHeld hc.1 hv, pv_sortsOnLabels hc.1 hv, lb_bndS, lb_bndS, lb_bndS, lb_bndS]
      by_cases c0 : x1 = 0
      · rw [if_pos c0, if_pos c0]; exact hc.same
      rw [if_neg c0, if_neg c0]
      by_cases c1 : x1 = 1
      · rw [if_pos c1, if_pos c1]; exact hc.same
      rw [if_neg c1, if_neg c1]; exact hc.same
    · unfold f_X9_sorts
      rw [pn_isIn0, lb_ifn ((ft_kl _ _).mp hj), pm_sorts hm.1 hv, pm_sortsL hm.1 hv, av_held_by hv hn]
      by_cases c0 : x1 = 0
      · rw [if_pos c0, if_pos c0]; exact hm.same
      rw [if_neg c0, if_neg c0]
      by_cases c1 : x1 = 1
      · rw [if_pos c1, if_pos c1]; exact hm.same
      rw [if_neg c1, if_neg c1]; exact hm.same
  · refine rs_rg hw hj (fun σ hc => ?_) (fun σ hm => ?_)
    · try dsimp only
      unfold f_X8_sorts
      rw [pc_known, lb_letS]
      exact pc_else hc hj (ft_k7 _ _)
    · try dsimp only
      unfold f_X9_sorts
      rw [pn_isIn0, lb_if1 (fun z => hj ((ft_kl _ _).mpr z)), ft_k2 hj]
      exact (pn_no2 hm).bid
