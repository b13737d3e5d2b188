theorem lb_andn {a b : Nat} (ha : a < 256) : nI a &&& (nI b ^^^ (-1 : Int32)) = nI (a &&& (b ^^^ 255)) := by
  apply Int32.toBitVec_inj.1
  show BitVec.ofNat 32 a &&& (BitVec.ofNat 32 b ^^^ BitVec.allOnes 32) = BitVec.ofNat 32 (a &&& (b ^^^ 255))
  apply BitVec.eq_of_getLsbD_eq
  intro i hi
  simp only [BitVec.getLsbD_and, BitVec.getLsbD_xor, BitVec.getLsbD_ofNat, BitVec.getLsbD_allOnes, hi, decide_true, Bool.true_and, Nat.testBit_and, Nat.testBit_xor, m255]
  by_cases c : i < 8
  · simp [c]
  · rw [Nat.testBit_lt_two_pow (Nat.lt_of_lt_of_le ha (Nat.pow_le_pow_right (n := 2) (i := 8) (by decide) (by omega)))]; rfl
theorem fD_and {S : av_V} (hv : av_W S) (p : Nat) : av_bt (fun t => decide (S 5 t = p)) id (S 8 0) &&& (av_bt (fun t => decide (S 3 t = S 2 t)) id (S 8 0) ^^^ 255) = fD S p := by
  have hn := hv.1
  apply Nat.eq_of_testBit_eq
  intro j
  rw [Bool.eq_iff_iff, fD_bit, Nat.testBit_and, Nat.testBit_xor, m255, Bool.and_eq_true, av_bt_bit]
  have hh : (av_bt (fun t => decide (S 3 t = S 2 t)) id (S 8 0)).testBit j = true ↔ j < S 8 0 ∧ S 3 j = S 2 j := by
    rw [av_bt_bit]
    constructor
    · rintro ⟨t, h1, h2, h3⟩
      obtain rfl : t = j := h3
      exact ⟨h1, of_decide_eq_true h2⟩
    · rintro ⟨h1, h2⟩; exact ⟨j, h1, decide_eq_true h2, rfl⟩
  constructor
  · rintro ⟨⟨t, h1, h2, h3⟩, h4⟩
    obtain rfl : t = j := h3
    refine ⟨h1, of_decide_eq_true h2, fun z => ?_⟩
    rw [hh.mpr ⟨h1, z⟩, decide_eq_true (show t < 8 by omega)] at h4
    cases h4
  · rintro ⟨h1, h2, h3⟩
    refine ⟨⟨j, h1, decide_eq_true h2, rfl⟩, ?_⟩
    have : (av_bt (fun t => decide (S 3 t = S 2 t)) id (S 8 0)).testBit j = false := by
      cases hb : (av_bt (fun t => decide (S 3 t = S 2 t)) id (S 8 0)).testBit j with
      | false => rfl
      | true => exact absurd (hh.mp hb).2 h3
    rw [this, decide_eq_true (show j < 8 by omega)]
    rfl
theorem pc_keeps65 {s : lb_Mem} {V : av_V} (h : av_C 17 s V) (hv : av_W V) {p m : Nat} (hp : p < 5) (hm : m ≤ 60) : ∃ σ1, f_X8_keepsGrace_65 lb_N (nI p) (nI m) (0 : Int32) s = some ((lb_sum (fun _ => 0) (fun _ => 1) (av_fi (av_zr (fun y => av_p V p y 7 p)) (m + 1)) : Int32), σ1) ∧ av_fr 17 s σ1 := by
  rw [show f_X8_keepsGrace_65 lb_N (nI p) (nI m) (0 : Int32) s = f_X8_keepsGrace_65 lb_N (nI p) (nI m) (nI 0) s from rfl]
  rcases lb_loopF (fun n (s : Int32 × lb_Mem) => f_X8_keepsGrace_65 n (nI p) (nI m) s.1 s.2) (fun i s' => s'.1 = nI i ∧ av_C 17 s'.2 (av_p V p i) ∧ av_fr 17 s s'.2) (av_zr (fun y => av_p V p y 7 p)) m lb_N (by rw [lb_N300]; omega)
    (fun n i s' hi hI hP => by
      obtain ⟨x, σ'⟩ := s'
      obtain ⟨i1, i2, i3⟩ := hI
      dsimp only at i1 i2 i3 ⊢
      subst i1
      obtain ⟨s2, e2, h2, f2⟩ := pc_year1 i2 hv hp
      have hb := ((hv.p p i).2.2.2.2 p hp).2
      have hz : ¬ av_p V p i 7 p = 0 := av_zr_f hP
      refine ⟨(nI (i + 1), s2), ⟨rfl, h2, i3.tr f2⟩, ?_⟩
      rw [f_X8_keepsGrace_65, if_neg (by rw [lb_le (by omega) (by omega)]; omega), lb_ixN hp (by decide), lb_chkT, lb_cl (by omega), show σ' 32 p = nI (av_p V p i 7 p) from i2.r7 p hp, if_neg (by rw [lb_k0, lb_le (by omega) (by omega)]; omega), e2, lb_bndS, show nI i + 1 = nI (i + 1) from nI_1 _]) (nI 0, s) ⟨rfl, h, av_fr.rf _ _⟩ with ⟨y, e0, hy, hP, n, s', ⟨i1, i2, i3⟩, e⟩ | ⟨e0, n, s', ⟨i1, i2, i3⟩, e⟩
  · obtain ⟨x, σ'⟩ := s'
    dsimp only at i1 i2 i3 e
    subst i1
    refine ⟨σ', ?_, i3⟩
    have hz : av_p V p y 7 p = 0 := av_zr_t hP
    have e98 : f_X8_keepsGrace_98 (nI p) σ' = some ((0 : Int32), σ') := by
      rw [f_X8_keepsGrace_98, lb_ixN hp (by decide), lb_chkT, lb_cl (by omega), show σ' 32 p = nI (av_p V p y 7 p) from i2.r7 p hp, hz, if_pos (show nI 0 ≤ 0 by decide)]
    rw [av_fi_l e0, lb_sum_l, e, f_X8_keepsGrace_65, if_neg (by rw [lb_le (by omega) (by omega)]; omega), lb_ixN hp (by decide), lb_chkT, lb_cl (by omega), show σ' 32 p = nI (av_p V p y 7 p) from i2.r7 p hp, hz, if_pos (show nI 0 ≤ 0 by decide), e98]
  · obtain ⟨x, σ'⟩ := s'
    dsimp only at i1 i2 i3 e
    subst i1
    refine ⟨σ', ?_, i3⟩
    have hb := ((hv.p p m).2.2.2.2 p hp).2
    rw [av_fi_r e0, e, f_X8_keepsGrace_65, if_pos (by rw [lb_le (by omega) (by omega)]; omega), f_X8_keepsGrace_98, lb_ixN hp (by decide), lb_chkT, lb_cl (by omega), show σ' 32 p = nI (av_p V p m 7 p) from i2.r7 p hp]
    by_cases c : av_p V p m 7 p = 0
    · rw [if_pos (show av_zr (fun y => av_p V p y 7 p) m = true from decide_eq_true c), lb_sum_l, if_pos (by rw [lb_k0, lb_le (by omega) (by omega)]; omega)]
    · rw [if_neg (show ¬ av_zr (fun y => av_p V p y 7 p) m = true from fun z => c (of_decide_eq_true z)), lb_sum_r, if_neg (by rw [lb_k0, lb_le (by omega) (by omega)]; omega)]
theorem fK_val (S : av_V) (m p X : Nat) : (lb_sum (fun _ => 0) (fun _ => 1) (av_fi (av_zr (fun y => av_p (rl S X (S 8 0)) p y 7 p)) (m + 1)) : Int32) = if fK S m p X = true then 1 else 0 := by
  unfold fK
  cases av_fi (av_zr (fun y => av_p (rl S X (S 8 0)) p y 7 p)) (m + 1) with
  | inl y => rfl
  | inr u => rfl
theorem pc_keeps {σ : lb_Mem} {S : av_V} (hc : rs_C σ S) (hv : av_W S) {p m X : Nat} (hp : p < 5) (hm : m ≤ 60) (hX : X < 256) : ∃ σ1, f_X8_keepsGrace (nI p) (nI X) (nI m) σ = some ((if fK S m p X = true then 1 else 0 : Int32), σ1) ∧ av_fr 17 σ σ1 := by
  have hn := hv.1
  obtain ⟨s1, e1, h1, f1⟩ := pc_mind hc
  unfold f_X8_keepsGrace
  rw [e1, lb_bndS, show f_X8_keepsGrace_14 lb_N (nI p) (nI X) (nI m) (0 : Int32) s1 = f_X8_keepsGrace_14 lb_N (nI p) (nI X) (nI m) (nI 0) s1 from rfl]
  obtain ⟨n, st, ⟨i1, i2, i3⟩, e⟩ := lb_loopR (fun n (st : Int32 × lb_Mem) => f_X8_keepsGrace_14 n (nI p) (nI X) (nI m) st.1 st.2) (fun i st => st.1 = nI i ∧ av_C 17 st.2 (rl S X i) ∧ av_fr 17 σ st.2) (S 8 0) lb_N (by rw [lb_N300]; omega)
    (fun n i st hi hI => by
      obtain ⟨x, σ'⟩ := st
      obtain ⟨i1, i2, i3⟩ := hI
      dsimp only at i1 i2 i3
      subst i1
      have i8 : i < 8 := by omega
      show ∃ s' : Int32 × lb_Mem, (s'.1 = nI (i + 1) ∧ av_C 17 s'.2 (rl S X (i + 1)) ∧ av_fr 17 σ s'.2) ∧ f_X8_keepsGrace_14 (n + 1) (nI p) (nI X) (nI m) (nI i) σ' = f_X8_keepsGrace_14 n (nI p) (nI X) (nI m) s'.1 s'.2
      rw [f_X8_keepsGrace_14, i2.np, rl_o _ _ (by decide), if_neg (by rw [lb_le (by omega) (by omega)]; omega), lb_bitD X hX i i8, rl, lb_ixN i8 (by decide), lb_chkT, lb_chkT, lb_letS, lb_cl (by omega), show σ' 27 i = nI (rl S X i 2 i) from i2.r2 i i8, rl_o _ _ (by decide), show nI i + 1 = nI (i + 1) from nI_1 _]
      by_cases c : X.testBit i = true
      · rw [if_pos c, if_pos c, if_pos rfl]
        exact ⟨(nI (i + 1), _), ⟨rfl, i2.set (a := 3) (t := i) (S 2 i) (by decide) i8, i3.tr (av_fr.sto (by omega) (by omega))⟩, rfl⟩
      · rw [if_neg c, if_neg c, if_neg (by decide)]
        exact ⟨(nI (i + 1), _), ⟨rfl, i2, i3⟩, rfl⟩) (nI 0, s1) ⟨rfl, h1, f1⟩
  obtain ⟨x, σ'⟩ := st
  dsimp only at i1 i2 i3 e
  subst i1
  obtain ⟨s2, e2, f2⟩ := pc_keeps65 i2 (rl_W hv X _ hn) hp hm
  refine ⟨s2, ?_, i3.tr f2⟩
  rw [e, f_X8_keepsGrace_14, i2.np, rl_o _ _ (by decide), if_pos (by rw [lb_le (by omega) (by omega)]; omega), e2, fK_val]
theorem mc_bc {X : Nat} (h : X < 256) : f_J6_bitCount_0f7a4 (nI X) = nI (mc X) := lb_bcD X h
theorem mc_le8 (X : Nat) : mc X ≤ 8 := av_ct_le _ _
theorem pc_f57 {σ : lb_Mem} {S : av_V} (hc : rs_C σ S) (hv : av_W S) {p m i : Nat} (hp : p < 5) (hm : m ≤ 60) (hi : i < 256) (kc : Int32 → Int32 → Int32 → Int32 → Int32 → lb_Mem → Option (Int32 × lb_Mem)) (x4 : Int32) : ∃ σ1, f_X8_fewestOf_57 kc (nI p) (nI m) (nI (fD S p)) x4 (nI i) σ (1 : Int32) = kc (nI p) (nI m) (nI (fD S p)) (if fQ S m p i = true then nI i else x4) (nI (i + 1)) σ1 ∧ av_fr 17 σ σ1 := by
  have hz : i &&& (fD S p ^^^ 255) < 256 := Nat.lt_of_le_of_lt Nat.and_le_left hi
  rw [f_X8_fewestOf_57, if_neg (by decide), lb_andn hi, show nI i + 1 = nI (i + 1) from nI_1 _]
  by_cases c : i &&& (fD S p ^^^ 255) = 0
  · obtain ⟨s1, e1, f1⟩ := pc_keeps hc hv (X := i) hp hm hi
    refine ⟨s1, ?_, f1⟩
    rw [c, if_pos (show nI 0 = 0 from rfl), e1, lb_bndS]
    unfold fQ
    rw [decide_eq_true c, Bool.true_and]
    by_cases k : fK S m p i = true
    · rw [if_pos k, if_pos k, if_neg (show ¬ (1 : Int32) = 0 by decide)]
    · rw [if_neg k, if_neg k, if_pos rfl]
  · refine ⟨σ, ?_, av_fr.rf _ _⟩
    rw [if_neg (show ¬ nI (i &&& (fD S p ^^^ 255)) = 0 by rw [lb_k0, lb_eq (by omega) (by omega)]; exact c)]
    unfold fQ
    rw [decide_eq_false c, Bool.false_and, if_neg (by decide)]
theorem sc_1n {Q : Nat → Bool} {n : Nat} (h : sc Q n = none) : sc Q (n + 1) = if Q n = true then some n else none := by rw [sc, h]
theorem sc_1s {Q : Nat → Bool} {n b : Nat} (h : sc Q n = some b) : sc Q (n + 1) = if mc n < mc b ∧ Q n = true then some n else some b := by rw [sc, h]
theorem pc_fewestOf {σ : lb_Mem} {S : av_V} (hc : rs_C σ S) (hv : av_W S) {p m : Nat} (hp : p < 5) (hm : m ≤ 60) : ∃ σ1, f_X8_fewestOf (nI p) (nI m) σ = some (av_enc (sc (fQ S m p) (fD S p + 1)), σ1) ∧ av_fr 17 σ σ1 := by
  have hn := hv.1
  have h2 : 2 ^ S 8 0 ≤ 256 := Nat.pow_le_pow_right (n := 2) (by decide) hn
  have hD := fD_lt S p
  have hb1 : av_bt (fun t => decide (S 5 t = p)) id (S 8 0) < 256 := Nat.lt_of_lt_of_le (av_bt_lt (k := S 8 0) _ (fun t ht => ht)) h2
  unfold f_X8_fewestOf
  rw [pv_potsOf hc.1 hv hp, lb_bndS, pv_honestPots hc.1 hv, lb_bndS, lb_andn hb1, fD_and hv, lb_letS, lb_k0]
  obtain ⟨n, st, ⟨i0, i1, i3⟩, e⟩ := lb_loopR (fun n (st : Int32 × Int32 × lb_Mem) => f_X8_fewestOf_26 n (nI p) (nI m) (nI (fD S p)) st.1 st.2.1 st.2.2) (fun i st => st.1 = av_enc (sc (fQ S m p) i) ∧ st.2.1 = nI i ∧ av_fr 17 σ st.2.2) (fD S p + 1) lb_N (by rw [lb_N300]; omega)
    (fun n i st hi hI => by
      obtain ⟨w, x, σ'⟩ := st
      obtain ⟨i0, i1, i3⟩ := hI
      dsimp only at i0 i1 i3
      subst i0 i1
      show ∃ s' : Int32 × Int32 × lb_Mem, (s'.1 = av_enc (sc (fQ S m p) (i + 1)) ∧ s'.2.1 = nI (i + 1) ∧ av_fr 17 σ s'.2.2) ∧ f_X8_fewestOf_26 (n + 1) (nI p) (nI m) (nI (fD S p)) (av_enc (sc (fQ S m p) i)) (nI i) σ' = f_X8_fewestOf_26 n (nI p) (nI m) (nI (fD S p)) s'.1 s'.2.1 s'.2.2
      obtain ⟨s1, e1, f1⟩ := pc_f57 (hc.fr0 i3) hv (i := i) hp hm (by omega) (fun (x1 : Int32) (x2 : Int32) (x3 : Int32) (x4 : Int32) (x5 : Int32) (σ : lb_Mem) => f_X8_fewestOf_26 n x1 x2 x3 x4 x5 σ) (av_enc (sc (fQ S m p) i))
      rw [f_X8_fewestOf_26, if_neg (by rw [lb_lt (by omega) (by omega)]; omega), f_X8_fewestOf_52, e1]
      cases ho : sc (fQ S m p) i with
      | none =>
        rw [av_enc_n, if_pos rfl, sc_1n ho]
        refine ⟨(av_enc (if fQ S m p i = true then some i else none), nI (i + 1), s1), ⟨rfl, rfl, i3.tr f1⟩, ?_⟩
        by_cases c : fQ S m p i = true
        · rw [if_pos c, if_pos c]; rfl
        · rw [if_neg c, if_neg c]; rfl
      | some b =>
        have hbi := (sc_s ho).1
        have c8 := mc_le8 b
        have c9 := mc_le8 i
        rw [av_enc_s, if_neg (show ¬ nI b = (-9 : Int32) from lb_ne16 (by omega)), mc_bc (show b < 256 by omega), mc_bc (show i < 256 by omega)]
        by_cases c : mc b ≤ mc i
        · rw [if_pos (show nI (mc b) ≤ nI (mc i) by rw [lb_le (by omega) (by omega)]; exact c), f_X8_fewestOf_57, if_pos (show (0 : Int32) = 0 from rfl), show nI i + 1 = nI (i + 1) from nI_1 _, sc_1s ho, if_neg (show ¬ (mc i < mc b ∧ fQ S m p i = true) by omega)]
          exact ⟨(nI b, nI (i + 1), σ'), ⟨rfl, rfl, i3⟩, rfl⟩
        · rw [if_neg (show ¬ nI (mc b) ≤ nI (mc i) by rw [lb_le (by omega) (by omega)]; exact c), sc_1s ho]
          by_cases cq : fQ S m p i = true
          · rw [if_pos cq, if_pos (show mc i < mc b ∧ fQ S m p i = true from ⟨by omega, cq⟩)]
            exact ⟨(nI i, nI (i + 1), s1), ⟨rfl, rfl, i3.tr f1⟩, rfl⟩
          · rw [if_neg cq, if_neg (show ¬ (mc i < mc b ∧ fQ S m p i = true) from fun z => cq z.2)]
            exact ⟨(nI b, nI (i + 1), s1), ⟨rfl, rfl, i3.tr f1⟩, rfl⟩) (-9, nI 0, σ) ⟨rfl, rfl, av_fr.rf _ _⟩
  obtain ⟨w, x, σ'⟩ := st
  dsimp only at i0 i1 i3 e
  subst i0 i1
  refine ⟨σ', ?_, i3⟩
  rw [e, f_X8_fewestOf_26, if_pos (by rw [lb_lt (by omega) (by omega)]; omega)]
theorem pn_nobIn {s : lb_Mem} {V : av_V} {y : Nat} (h : av_M 55 s (av_ys V y)) (hv : av_W V) (kc : Int32 → Int32 → lb_Mem → Option (Int32 × lb_Mem)) (x1 : Int32) : f_X9_isNobodyGraceless_9 kc lb_N x1 (nI y) (0 : Int32) s = lb_sum (fun _ => some ((0 : Int32), s)) (fun _ => (f_X9_year 55 s).bind (fun s44 => kc x1 (nI (y + 1)) s44)) (gl_p V y) := by
  have hn1 := hv.2.1
  refine lb_loopE (fun n i (_ : Unit) => f_X9_isNobodyGraceless_9 kc n x1 (nI y) (nI i) s) (av_fi (av_zr (fun p => gl_w V p y))) _ _ (V 8 1) lb_N (by rw [lb_N300]; omega) (fun i b _ hb => av_fi_l hb) (fun n i a hi ha => ?_) (fun n a ha => ?_) () rfl
  · show f_X9_isNobodyGraceless_9 kc (n + 1 + 1) _ _ _ _ = _
    have h5 : i < 5 := by omega
    have hb := (hv.ys y).2.2.2.2 i h5
    rw [f_X9_isNobodyGraceless_9, show (1 : Int32).toNatClampNeg = 1 from rfl, h.nn, av_ys81, if_neg (by rw [lb_le (by omega) (by omega)]; omega), show f_X9_ofP (nI i) (1 : Int32) = nI (51 + 2 * i + 1) from pm_oP i 1, lb_ixN (show 51 + 2 * i + 1 < 61 by omega) (by decide), lb_chkT, lb_cl (by omega), h.p1 i h5, show nI i + 1 = nI (i + 1) from nI_1 i, av_fi_r ha]
    by_cases c : av_ys V y 7 i = 0
    · rw [if_pos (by rw [c]; rfl), if_pos (show av_zr (fun p => gl_w V p y) i = true from decide_eq_true c), lb_sum_l]
    · rw [if_neg (by rw [lb_k0, lb_eq (by omega) (by omega)]; exact c), if_neg (show ¬ av_zr (fun p => gl_w V p y) i = true from fun z => c (of_decide_eq_true z)), lb_sum_r]
  · show f_X9_isNobodyGraceless_9 kc (n + 1) _ _ _ _ = _
    rw [f_X9_isNobodyGraceless_9, show (1 : Int32).toNatClampNeg = 1 from rfl, h.nn, av_ys81, if_pos (by rw [lb_le (by omega) (by omega)]; omega), show nI y + 1 = nI (y + 1) from nI_1 y]
theorem pn_nobody {s : lb_Mem} {V : av_V} (h : av_M 55 s V) (hv : av_W V) {m : Nat} (hm : m ≤ 60) : ∃ σ1, f_X9_isNobodyGraceless (nI m) s = some ((if fN V m = true then 1 else 0 : Int32), σ1) ∧ av_fk 55 s σ1 := by
  unfold f_X9_isNobodyGraceless fN
  rw [show f_X9_isNobodyGraceless_2 lb_N (nI m) (0 : Int32) s = f_X9_isNobodyGraceless_2 lb_N (nI m) (nI 0) s from rfl]
  rcases lb_loopF (fun n (s : Int32 × lb_Mem) => f_X9_isNobodyGraceless_2 n (nI m) s.1 s.2) (fun i s' => s'.1 = nI i ∧ av_M 55 s'.2 (av_ys V i) ∧ av_fk 55 s s'.2) (gl_o V) (m + 1) lb_N (by rw [lb_N300]; omega)
    (fun n i s' hi hI hP => by
      obtain ⟨x, σ'⟩ := s'
      obtain ⟨i1, i2, i3⟩ := hI
      dsimp only at i1 i2 i3 ⊢
      subst i1
      obtain ⟨s2, e2, h2, f2⟩ := pm_year i2 (hv.ys i)
      refine ⟨(nI (i + 1), s2), ⟨rfl, h2, i3.tr f2⟩, ?_⟩
      rw [f_X9_isNobodyGraceless_2, if_neg (by rw [lb_lt (by omega) (by omega)]; omega), pn_nobIn i2 hv]
      unfold gl_o at hP
      cases hp : gl_p V i with
      | inl p => rw [hp] at hP; cases hP
      | inr u => rw [lb_sum_r, e2, lb_bndS]) (nI 0, s) ⟨rfl, h, av_fk.rf _ _⟩ with ⟨y, e0, hy, hP, n, s', ⟨i1, i2, i3⟩, e⟩ | ⟨e0, n, s', ⟨i1, i2, i3⟩, e⟩
  · obtain ⟨x, σ'⟩ := s'
    dsimp only at i1 i2 i3 e
    subst i1
    refine ⟨σ', ?_, i3⟩
    rw [e0, lb_sum_l, if_neg (by decide), e, f_X9_isNobodyGraceless_2, if_neg (by rw [lb_lt (by omega) (by omega)]; omega), pn_nobIn i2 hv]
    unfold gl_o at hP
    cases hp : gl_p V y with
    | inl p => rw [lb_sum_l]
    | inr u => rw [hp] at hP; cases hP
  · obtain ⟨x, σ'⟩ := s'
    dsimp only at i1 i2 i3 e
    subst i1
    refine ⟨σ', ?_, i3⟩
    rw [e0, lb_sum_r, if_pos rfl, e, f_X9_isNobodyGraceless_2, if_pos (by rw [lb_lt (by omega) (by omega)]; omega)]
theorem pn_f56 {σ : lb_Mem} {S : av_V} (hm : rs_M σ S) (hv : av_W S) {m M : Nat} (hm60 : m ≤ 60) (hM : M < 256) (kc : Int32 → Int32 → Int32 → lb_Mem → Option (Int32 × lb_Mem)) (x3 : Int32) : ∃ σ1, f_X9_fewest_56 kc (nI m) x3 (nI M) σ = kc (nI m) (if fOK S m M = true then nI M else x3) (nI (M + 1)) σ1 ∧ av_fk 55 σ σ1 := by
  have hn := hv.1
  obtain ⟨s1, e1, h1, f1⟩ := pn_copy hm
  unfold f_X9_fewest_56
  rw [e1, lb_bndS, lb_k0]
  obtain ⟨n, st, ⟨i1, i2, i3⟩, e⟩ := lb_loopR (fun n (st : Int32 × lb_Mem) => f_X9_fewest_70 kc n (nI m) x3 (nI M) st.1 st.2) (fun i st => st.1 = nI i ∧ av_M 55 st.2 (rl S M i) ∧ av_fk 55 σ st.2) (S 8 0) lb_N (by rw [lb_N300]; omega)
    (fun n i st hi hI => by
      obtain ⟨x, σ'⟩ := st
      obtain ⟨i1, i2, i3⟩ := hI
      dsimp only at i1 i2 i3
      subst i1
      have i8 : i < 8 := by omega
      have hm' := hm.fk0 i3
      show ∃ s' : Int32 × lb_Mem, (s'.1 = nI (i + 1) ∧ av_M 55 s'.2 (rl S M (i + 1)) ∧ av_fk 55 σ s'.2) ∧ f_X9_fewest_70 kc (n + 1) (nI m) x3 (nI M) (nI i) σ' = f_X9_fewest_70 kc n (nI m) x3 (nI M) s'.1 s'.2
      rw [f_X9_fewest_70, show (0 : Int32).toNatClampNeg = 0 from rfl, hm'.1.np, if_neg (by rw [lb_le (by omega) (by omega)]; omega), pn_has hM i8, rl, show f_X9_ofT (nI i) (2 : Int32) = nI (3 + 6 * i + 2) from pm_oT i 2, show f_X9_ofT (nI i) (3 : Int32) = nI (3 + 6 * i + 3) from pm_oT i 3, lb_ixN (show 3 + 6 * i + 2 < 61 by omega) (by decide), lb_ixN (show 3 + 6 * i + 3 < 61 by omega) (by decide), lb_chkT, lb_chkT, lb_letS, lb_cl (show 3 + 6 * i + 2 < 2147483648 by omega), lb_cl (show 3 + 6 * i + 3 < 2147483648 by omega), hm'.1.t2 i i8, show nI i + 1 = nI (i + 1) from nI_1 _]
      by_cases c : M.testBit i = true
      · rw [if_pos c, if_pos c, if_neg (by decide)]
        exact ⟨(nI (i + 1), _), ⟨rfl, i2.setT (a := 3) (t := i) (S 2 i) (by decide) i8, i3.tr av_fk.sto⟩, rfl⟩
      · rw [if_neg c, if_neg c, if_pos rfl]
        exact ⟨(nI (i + 1), _), ⟨rfl, i2, i3⟩, rfl⟩) (nI 0, s1) ⟨rfl, h1, f1⟩
  obtain ⟨x, σ'⟩ := st
  dsimp only at i1 i2 i3 e
  subst i1
  obtain ⟨s2, e2, f2⟩ := pn_nobody i2 (rl_W hv M _ hn) hm60
  refine ⟨s2, ?_, i3.tr f2⟩
  rw [e, f_X9_fewest_70, show (0 : Int32).toNatClampNeg = 0 from rfl, (hm.fk0 i3).1.np, if_pos (by rw [lb_le (by omega) (by omega)]; omega), e2, lb_bndS, show nI M + 1 = nI (M + 1) from nI_1 _]
  unfold fOK
  by_cases c : fN (rl S M (S 8 0)) m = true
  · rw [if_pos c, if_pos c, if_neg (show ¬ (1 : Int32) = 0 by decide)]
  · rw [if_neg c, if_neg c, if_pos rfl]
theorem pn_fewest {σ : lb_Mem} {S : av_V} (hm : rs_M σ S) (hv : av_W S) {m : Nat} (hm60 : m ≤ 60) : ∃ σ1, f_X9_fewest_24 lb_N (nI m) (-9 : Int32) (0 : Int32) σ = some (av_enc (sc (fOK S m) (2 ^ S 8 0)), σ1) ∧ av_fk 55 σ σ1 := by
  have hn := hv.1
  have h2 : 2 ^ S 8 0 ≤ 256 := Nat.pow_le_pow_right (n := 2) (by decide) hn
  rw [lb_k0]
  obtain ⟨n, st, ⟨i0, i1, i3⟩, e⟩ := lb_loopR (fun n (st : Int32 × Int32 × lb_Mem) => f_X9_fewest_24 n (nI m) st.1 st.2.1 st.2.2) (fun i st => st.1 = av_enc (sc (fOK S m) i) ∧ st.2.1 = nI i ∧ av_fk 55 σ st.2.2) (2 ^ S 8 0) lb_N (by rw [lb_N300]; omega)
    (fun n i st hi hI => by
      obtain ⟨w, x, σ'⟩ := st
      obtain ⟨i0, i1, i3⟩ := hI
      dsimp only at i0 i1 i3
      subst i0 i1
      show ∃ s' : Int32 × Int32 × lb_Mem, (s'.1 = av_enc (sc (fOK S m) (i + 1)) ∧ s'.2.1 = nI (i + 1) ∧ av_fk 55 σ s'.2.2) ∧ f_X9_fewest_24 (n + 1) (nI m) (av_enc (sc (fOK S m) i)) (nI i) σ' = f_X9_fewest_24 n (nI m) s'.1 s'.2.1 s'.2.2
      have hm' := hm.fk0 i3
      obtain ⟨s1, e1, f1⟩ := pn_f56 hm' hv (M := i) hm60 (by omega) (fun (x1 : Int32) (x3 : Int32) (x4 : Int32) (σ : lb_Mem) => f_X9_fewest_24 n x1 x3 x4 σ) (av_enc (sc (fOK S m) i))
      rw [f_X9_fewest_24, show (0 : Int32).toNatClampNeg = 0 from rfl, hm'.1.np, show (1 : Int32) <<< (nI (S 8 0) &&& 31) = nI (2 ^ S 8 0) from lb_shl (by omega), if_neg (by rw [lb_le (by omega) (by omega)]; omega), e1]
      cases ho : sc (fOK S m) i with
      | none =>
        rw [av_enc_n, if_pos (show (-9 : Int32) < 0 by decide), sc_1n ho]
        refine ⟨(av_enc (if fOK S m i = true then some i else none), nI (i + 1), s1), ⟨rfl, rfl, i3.tr f1⟩, ?_⟩
        by_cases c : fOK S m i = true
        · rw [if_pos c, if_pos c]; rfl
        · rw [if_neg c, if_neg c]; rfl
      | some b =>
        have hbi := (sc_s ho).1
        have c8 := mc_le8 b
        have c9 := mc_le8 i
        rw [av_enc_s, if_neg (show ¬ nI b < (0 : Int32) from nI_pos (by omega)), lb_bitsD i (by omega), lb_bndS, lb_bitsD b (by omega), lb_bndS, mc_bc (show i < 256 by omega), mc_bc (show b < 256 by omega)]
        by_cases c : mc i < mc b
        · rw [if_pos (show nI (mc i) < nI (mc b) by rw [lb_lt (by omega) (by omega)]; exact c), sc_1s ho]
          by_cases cq : fOK S m i = true
          · rw [if_pos cq, if_pos (show mc i < mc b ∧ fOK S m i = true from ⟨c, cq⟩)]
            exact ⟨(nI i, nI (i + 1), s1), ⟨rfl, rfl, i3.tr f1⟩, rfl⟩
          · rw [if_neg cq, if_neg (show ¬ (mc i < mc b ∧ fOK S m i = true) from fun z => cq z.2)]
            exact ⟨(nI b, nI (i + 1), s1), ⟨rfl, rfl, i3.tr f1⟩, rfl⟩
        · rw [if_neg (show ¬ nI (mc i) < nI (mc b) by rw [lb_lt (by omega) (by omega)]; exact c), sc_1s ho, if_neg (show ¬ (mc i < mc b ∧ fOK S m i = true) from fun z => c z.1), show nI i + 1 = nI (i + 1) from nI_1 _]
          exact ⟨(nI b, nI (i + 1), σ'), ⟨rfl, rfl, i3⟩, rfl⟩) (-9, nI 0, σ) ⟨rfl, rfl, av_fk.rf _ _⟩
  obtain ⟨w, x, σ'⟩ := st
  dsimp only at i0 i1 i3 e
  subst i0 i1
  refine ⟨σ', ?_, i3⟩
  rw [e, f_X9_fewest_24, show (0 : Int32).toNatClampNeg = 0 from rfl, (hm.fk0 i3).1.np, show (1 : Int32) <<< (nI (S 8 0) &&& 31) = nI (2 ^ S 8 0) from lb_shl (by omega), if_pos (by rw [lb_le (by omega) (by omega)]; omega)]
/-- the class's round of the people -/
def fF (S : av_V) (m : Nat) (p : Nat) : Option Nat := sc (fQ S m p) (fD S p + 1)
def fT (S : av_V) (m : Nat) : Nat → Unit ⊕ Nat
  | 0 => .inr 0
  | k + 1 => match fT S m k with
    | .inl u => .inl u
    | .inr x => match fF S m k with
      | none => .inl ()
      | some b => .inr (x ||| b)
theorem fT_cfo (S : av_V) (m : Nat) : ∀ k, cfo (fF S m) k = lb_sum (fun _ => none) some (fT S m k)
  | 0 => rfl
  | k + 1 => by
    rw [cfo, fT, fT_cfo S m k]
    cases fT S m k with
    | inl u => rfl
    | inr x =>
      rw [lb_sum_r]
      dsimp only
      cases fF S m k <;> rfl
theorem pc_fewest {σ : lb_Mem} {S : av_V} (hc : rs_C σ S) (hv : av_W S) {m : Nat} (hm : m ≤ 60) : ∃ σ1, f_X8_fewest_23 lb_N (nI m) (0 : Int32) (0 : Int32) σ = some (av_enc (cfo (fF S m) (S 8 1)), σ1) ∧ av_fr 17 σ σ1 := by
  have hn1 := hv.2.1
  rw [lb_k0, fT_cfo]
  have hP : ∀ k, (∃ u, fT S m k = .inl u) ∨ ∃ x, fT S m k = .inr x := fun k => by
    cases fT S m k with
    | inl u => exact Or.inl ⟨u, rfl⟩
    | inr x => exact Or.inr ⟨x, rfl⟩
  have hF0 : ∀ k p, p < k → fF S m p = none → ∃ u, fT S m k = .inl u := by
    intro k
    induction k with
    | zero => intro p hp; omega
    | succ k ih =>
      intro p hp hF
      by_cases e : p = k
      · subst e
        rw [fT]
        cases fT S m p with
        | inl u => exact ⟨u, rfl⟩
        | inr x => dsimp only; rw [hF]; exact ⟨(), rfl⟩
      · obtain ⟨u, hu⟩ := ih p (by omega) hF
        rw [fT, hu]; exact ⟨u, rfl⟩
  rcases lb_loopF (fun n (st : Int32 × Int32 × lb_Mem) => f_X8_fewest_23 n (nI m) st.1 st.2.1 st.2.2) (fun i st => (∃ x, fT S m i = .inr x ∧ st.1 = nI x) ∧ st.2.1 = nI i ∧ av_fr 17 σ st.2.2) (fun p => (fF S m p).isNone) (S 8 1) lb_N (by rw [lb_N300]; omega)
    (fun n i st hi hI hP => by
      obtain ⟨w, x, σ'⟩ := st
      obtain ⟨⟨y, hy, i0⟩, i1, i3⟩ := hI
      dsimp only at i0 i1 i3 hP ⊢
      subst i0 i1
      have hc' := hc.fr0 i3
      obtain ⟨s1, e1, f1⟩ := pc_fewestOf hc' hv (p := i) (by omega) hm
      have e1' : f_X8_fewestOf (nI i) (nI m) σ' = some (av_enc (fF S m i), s1) := e1
      cases hf : fF S m i with
      | none => rw [hf] at hP; cases hP
      | some b =>
        have hb : b < fD S i + 1 := (sc_s hf).1
        have hD := fD_lt S i
        have h2 : 2 ^ S 8 0 ≤ 256 := Nat.pow_le_pow_right (n := 2) (by decide) hv.1
        refine ⟨(nI (y ||| b), nI (i + 1), s1), ⟨⟨y ||| b, by rw [fT, hy]; dsimp only; rw [hf], rfl⟩, rfl, i3.tr f1⟩, ?_⟩
        rw [f_X8_fewest_23, hc'.1.nn, if_neg (by rw [lb_le (by omega) (by omega)]; omega), e1', lb_bndS, hf, av_enc_s, if_neg (lb_ne16 (by omega)), lb_or1, lb_letS, show nI i + 1 = nI (i + 1) from nI_1 _]) (nI 0, nI 0, σ) ⟨⟨0, rfl, rfl⟩, rfl, av_fr.rf _ _⟩ with ⟨k, e0, hk, hP2, n, st, ⟨⟨y, hy, i0⟩, i1, i3⟩, e⟩ | ⟨e0, n, st, ⟨⟨y, hy, i0⟩, i1, i3⟩, e⟩
  · obtain ⟨w, x, σ'⟩ := st
    dsimp only at i0 i1 i3 e hP2
    subst i0 i1
    have hc' := hc.fr0 i3
    obtain ⟨s1, e1, f1⟩ := pc_fewestOf hc' hv (p := k) (by omega) hm
    have e1' : f_X8_fewestOf (nI k) (nI m) σ' = some (av_enc (fF S m k), s1) := e1
    have hf : fF S m k = none := Option.isNone_iff_eq_none.mp hP2
    obtain ⟨u, hu⟩ := hF0 (S 8 1) k hk hf
    refine ⟨s1, ?_, i3.tr f1⟩
    rw [hu, lb_sum_l, e, f_X8_fewest_23, hc'.1.nn, if_neg (by rw [lb_le (by omega) (by omega)]; omega), e1', lb_bndS, hf, av_enc_n, if_pos rfl]
  · obtain ⟨w, x, σ'⟩ := st
    dsimp only at i0 i1 i3 e
    subst i0 i1
    refine ⟨σ', ?_, i3⟩
    rw [hy, lb_sum_r, e, f_X8_fewest_23, (hc.fr0 i3).1.nn, if_pos (by rw [lb_le (by omega) (by omega)]; omega)]
    rfl
theorem st_fewest : lb_st_fewest rs_R := by
  intro σ x1 h
  refine rs_go (f8 := fun σ => f_X8_fewest x1 σ) (f9 := fun σ => f_X9_fewest x1 σ) h (fun S hw => ?_)
  have hv := hw.1
  by_cases hj : ft_w x1 0 20 = 0
  · obtain ⟨m, _, hm20, rfl⟩ := ft_w0 (a := 0) (b := 20) (by decide) (by decide) hj
    refine ⟨av_enc (cfo (fF S m) (S 8 1)), S, hw, fun σ hc => ?_, fun σ hm => ?_⟩
    · unfold f_X8_fewest
      obtain ⟨s1, e1, f1⟩ := pc_fewest hc hv (show m ≤ 60 by omega)
      rw [pc_within, hj, lb_letS, lb_if0, e1]
      exact hc.fr f1
    · unfold f_X9_fewest
      obtain ⟨s1, e1, f1⟩ := pn_fewest hm hv (show m ≤ 60 by omega)
      rw [pn_wrongBy, hj, lb_letS, lb_if0, e1, fewest_same hv]
      exact hm.fk f1
  · refine rs_rg hw hj (fun σ hc => ?_) (fun σ hm => ?_)
    · try dsimp only
      unfold f_X8_fewest
      rw [pc_within, lb_letS]
      exact pc_else hc hj (ft_w7 _ _ _)
    · try dsimp only
      unfold f_X9_fewest
      rw [pn_wrongBy, lb_letS]
      exact pn_else hm hj (ft_w7 _ _ _)
