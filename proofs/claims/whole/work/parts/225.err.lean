theorem lb_bitD : ∀ m, m < 256 → ∀ y, y < 8 → ((nI m >>> (nI y &&& 31)) &&& (1 : Int32)) = (if m.testBit y = true then 1 else 0 : Int32) := by decide +kernel
theorem lb_bcD : ∀ m, m < 256 → f_J6_bitCount_0f7a4 (nI m) = nI (av_ct (fun y => m.testBit y) 8) := by decide +kernel
theorem pn_has {m y : Nat} (hm : m < 256) (hy : y < 8) : f_X9_has (nI m) (nI y) = if m.testBit y = true then 1 else 0 := by
  unfold f_X9_has
  rw [lb_bitD m hm y hy]
  by_cases c : m.testBit y = true
  · rw [if_pos c, if_pos rfl]
  · rw [if_neg c, if_neg (by decide)]
theorem av_lo3 {V U : av_V} (h : ∀ i, V 3 i = U 3 i) : ∀ n i, av_lo V n 3 i = av_lo U n 3 i
  | 0, i => h i
  | n + 1, i => by
    rw [av_lo, av_lo, av_lo3 h n n]
    by_cases c : av_lo U n 3 n = 6
    · rw [if_pos c, if_pos c]; exact av_lo3 h n i
    · rw [if_neg c, if_neg c]
      by_cases e : i = n
      · subst e; rw [av_st_s, av_st_s]
      · rw [av_st_i _ e, av_st_i _ e]; exact av_lo3 h n i
theorem av_al.lo {p : Nat} {V U : av_V} (h : av_al p V U) (n : Nat) : av_al p (av_lo V n) (av_lo U n) := by
  refine ⟨fun a i h1 h2 h3 => ?_, ?_, ?_, ?_, fun t ht => ?_⟩
  · by_cases e : a = 3
    · subst e; exact av_lo3 (fun i => h.1 3 i (by decide) (by decide) (by decide)) n i
    · rw [av_lo_st _ _ _ e, av_lo_st _ _ _ e]; exact h.1 a i h1 h2 h3
  · rw [av_lo_st _ _ _ (by decide), av_lo_st _ _ _ (by decide)]; exact h.2.1
  · rw [av_lo_st _ _ _ (by decide), av_lo_st _ _ _ (by decide)]; exact h.2.2.1
  · rw [av_lo_st _ _ _ (by decide), av_lo_st _ _ _ (by decide)]; exact h.2.2.2.1
  · rw [av_lo_st _ _ _ (by decide)] at ht
    rw [av_lo_st _ _ _ (by decide), av_lo_st _ _ _ (by decide)]; exact h.2.2.2.2 t ht
def er_c (S : av_V) (p m : Nat) : Nat → av_V
  | 0 => S
  | i + 1 => av_y (if m.testBit i = true then av_lo (er_c S p m i) (S 8 0) else er_c S p m i) p
def er_m (S : av_V) (m : Nat) : Nat → av_V
  | 0 => S
  | i + 1 => av_ye (if m.testBit i = true then av_lo (er_m S m i) (S 8 0) else er_m S m i)
theorem er_c8 (S : av_V) (p m j : Nat) : ∀ i, er_c S p m i 8 j = S 8 j
  | 0 => rfl
  | i + 1 => by
    rw [er_c, av_y8]
    split
    · rw [av_lo_st _ _ _ (by decide)]; exact er_c8 S p m j i
    · exact er_c8 S p m j i
theorem av_ye8 (V : av_V) {j : Nat} (h : j ≠ 2) : av_ye V 8 j = V 8 j := by unfold av_ye; rw [av_yq8, if_neg h]
theorem er_m8 (S : av_V) (m : Nat) {j : Nat} (h : j ≠ 2) : ∀ i, er_m S m i 8 j = S 8 j
  | 0 => rfl
  | i + 1 => by
    rw [er_m, av_ye8 _ h]
    split
    · rw [av_lo_st _ _ _ (by decide)]; exact er_m8 S m h i
    · exact er_m8 S m h i
theorem av_W.ye {V : av_V} (h : av_W V) : av_W (av_ye V) := h.yq _
theorem er_cW {S : av_V} (h : av_W S) (p m : Nat) : ∀ i, av_W (er_c S p m i)
  | 0 => h
  | i + 1 => by
    rw [er_c]
    split
    · exact ((er_cW h p m i).lo _).y p
    · exact (er_cW h p m i).y p
theorem er_mW {S : av_V} (h : av_W S) (m : Nat) : ∀ i, av_W (er_m S m i)
  | 0 => h
  | i + 1 => by
    rw [er_m]
    split
    · exact ((er_mW h m i).lo _).ye
    · exact (er_mW h m i).ye
theorem av_ye_al {V : av_V} {p : Nat} (hp : p < V 8 1) : av_al p (av_ye V) (av_y V p) := by
  have := av_yq_al V p (V 8 1)
  rw [if_pos hp] at this
  exact this
theorem er_al {S : av_V} {p : Nat} (m : Nat) (hp : p < S 8 1) : ∀ i, av_al p (er_m S m i) (er_c S p m i)
  | 0 => av_al.rf p S
  | i + 1 => by
    have ih := er_al m hp i
    have h8 := er_m8 S m (j := 1) (by decide) i
    rw [er_m, er_c]
    by_cases c : m.testBit i = true
    · rw [if_pos c, if_pos c]
      exact (av_ye_al (by rw [av_lo_st _ _ _ (by decide), h8]; exact hp)).tr (ih.lo _).y
    · rw [if_neg c, if_neg c]
      exact (av_ye_al (by rw [h8]; exact hp)).tr ih.y
theorem pm_errsIn {k : Nat} {σ : lb_Mem} {V : av_V} (h : av_M k σ V) (hw : av_W V) : ∃ σ', f_X9_errsIn k σ = some σ' ∧ av_M k σ' (av_lo V (V 8 0)) ∧ av_fk k σ σ' := by
  have hn := hw.1
  obtain ⟨n, s, ⟨e1, h1, h2⟩, e⟩ := lb_loopR (fun n (s : Int32 × lb_Mem) => f_X9_errsIn_2 k n s.1 s.2) (fun i s => s.1 = nI i ∧ av_M k s.2 (av_lo V i) ∧ av_fk k σ s.2) (V 8 0) lb_N (by rw [lb_N300]; omega)
    (fun n i s hi hI => by
      obtain ⟨e1, h1, h2⟩ := hI
      obtain ⟨x, s⟩ := s
      dsimp only at e1 h1 h2
      subst e1
      have hwi := (hw.lo i).2.2.1 i (by omega)
      show ∃ s' : Int32 × lb_Mem, (s'.1 = nI (i + 1) ∧ av_M k s'.2 (av_lo V (i + 1)) ∧ av_fk k σ s'.2) ∧ f_X9_errsIn_2 k (n + 1) (nI i) s = f_X9_errsIn_2 k n s'.1 s'.2
      rw [f_X9_errsIn_2, show (0 : Int32).toNatClampNeg = 0 from rfl, h1.np, av_lo_st _ _ _ (by decide), show f_X9_ofT (nI i) (3 : Int32) = nI (3 + 6 * i + 3) from pm_oT i 3, lb_ixN (show 3 + 6 * i + 3 < 61 by omega) (by decide), lb_chkT, lb_chkT, lb_chkT, lb_letS, lb_cl (by omega), h1.t3 i (by omega), lb_k1, lb_k6, lb_ad1]
      rw [if_neg (by rw [lb_le (by omega) (by omega)]; omega), av_lo]
      by_cases c : av_lo V i 3 i = 6
      · rw [if_pos c, if_pos (by rw [c])]
        exact ⟨(nI (i + 1), s), ⟨rfl, h1, h2⟩, rfl⟩
      · rw [if_neg c, if_neg (by rw [lb_eq (by omega) (by omega)]; exact c), lb_rem6D _ (by omega)]
        exact ⟨(nI (i + 1), _), ⟨rfl, h1.setT (a := 3) _ (by decide) (show i < 8 by omega), h2.tr av_fk.sto⟩, rfl⟩)
    (nI 0, σ) ⟨rfl, h, av_fk.rf k σ⟩
  obtain ⟨x, s⟩ := s
  dsimp only at e1 h1 h2 e
  subst e1
  refine ⟨s, ?_, h1, h2⟩
  unfold f_X9_errsIn
  rw [show (0 : Int32) = nI 0 from rfl, e, f_X9_errsIn_2, show (0 : Int32).toNatClampNeg = 0 from rfl, h1.np, av_lo_st _ _ _ (by decide), if_pos (by rw [lb_le (by omega) (by omega)]; exact Nat.le_refl _)]
theorem pc_erring {σ : lb_Mem} {S : av_V} (hc : rs_C σ S) (hv : av_W S) {p n m : Nat} (hp : p < 5) (hn : n ≤ 8) (hm : m < 256) : ∃ σ1, f_X8_graceIfErring (nI p) (nI n) (nI m) σ = some (nI (er_c S p m n 7 p), σ1) ∧ av_fr 17 σ σ1 := by
  obtain ⟨s1, e1, h1, f1⟩ := pc_mind hc
  unfold f_X8_graceIfErring
  rw [e1, lb_bndS]
  obtain ⟨k, s, ⟨i1, i2, i3⟩, e⟩ := lb_loopR (fun k (s : Int32 × lb_Mem) => f_X8_graceIfErring_14 k (nI p) (nI n) (nI m) s.1 s.2) (fun i s => s.1 = nI i ∧ av_C 17 s.2 (er_c S p m i) ∧ av_fr 17 σ s.2) n lb_N (by rw [lb_N300]; omega)
    (fun k i s hi hI => by
      obtain ⟨x, σ'⟩ := s
      obtain ⟨i1, i2, i3⟩ := hI
      dsimp only at i1 i2 i3 ⊢
      subst i1
      rw [f_X8_graceIfErring_14, if_neg (by rw [lb_le (by omega) (by omega)]; omega), lb_bitD m hm i (by omega), er_c]
      by_cases c : m.testBit i = true
      · rw [if_pos c, if_pos c, if_pos rfl]
        obtain ⟨s2, e2, h2, f2⟩ := pv_labelsOneOn i2 (er_cW hv p m i)
        rw [er_c8] at h2
        obtain ⟨s3, e3, h3, f3⟩ := pv_passFor (m := 1) h2 ((er_cW hv p m i).lo _) hp (by decide)
        refine ⟨(nI (i + 1), s3), ⟨rfl, h3, i3.tr (f2.tr f3)⟩, ?_⟩
        rw [e2, lb_bndS, f_X8_graceIfErring_37, lb_k1, e3, lb_bndS, ← lb_k1, show nI i + 1 = nI (i + 1) from nI_1 _]
      · rw [if_neg c, if_neg c, if_neg (by decide)]
        obtain ⟨s3, e3, h3, f3⟩ := pv_passFor (m := 1) i2 (er_cW hv p m i) hp (by decide)
        refine ⟨(nI (i + 1), s3), ⟨rfl, h3, i3.tr f3⟩, ?_⟩
        rw [f_X8_graceIfErring_37, lb_k1, e3, lb_bndS, ← lb_k1, show nI i + 1 = nI (i + 1) from nI_1 _]) (nI 0, s1) ⟨rfl, h1, f1⟩
  obtain ⟨x, σ'⟩ := s
  dsimp only at i1 i2 i3 e
  subst i1
  refine ⟨σ', ?_, i3⟩
  rw [lb_k0, e, f_X8_graceIfErring_14, if_pos (by rw [lb_le (by omega) (by omega)]; omega), lb_ixN hp (by decide), lb_chkT, lb_cl (by omega), show σ' 32 p = nI (er_c S p m n 7 p) from i2.r7 p hp]
def er_w (T m : Nat) : Nat → Nat
  | 0 => 1
  | i + 1 => er_w T m i * (if m.testBit i = true then 1 else T - 1)
theorem av_ct_le (P : Nat → Bool) : ∀ n, av_ct P n ≤ n
  | 0 => Nat.le_refl _
  | n + 1 => by have := av_ct_le P n; rw [av_ct]; split <;> omega
theorem er_w_pow (T m : Nat) : ∀ n, er_w T m n = (T - 1) ^ (n - av_ct (fun y => m.testBit y) n)
  | 0 => rfl
  | n + 1 => by
    have h := av_ct_le (fun y => m.testBit y) n
    rw [er_w, er_w_pow T m n, av_ct]
    by_cases c : m.testBit n = true
    · rw [if_pos c, if_pos c, Nat.mul_one, show n + 1 - (av_ct (fun y => m.testBit y) n + 1) = n - av_ct (fun y => m.testBit y) n by omega]
    · rw [if_neg c, if_neg c, ← Nat.pow_succ, show n + 1 - av_ct (fun y => m.testBit y) n = (n - av_ct (fun y => m.testBit y) n) + 1 by omega]
theorem av_ct_more {P : Nat → Bool} {n : Nat} : ∀ k, (∀ y, n ≤ y → y < n + k → P y = false) → av_ct P (n + k) = av_ct P n
  | 0, _ => rfl
  | k + 1, h => by
    rw [← Nat.add_assoc, av_ct, if_neg (by rw [h (n + k) (by omega) (by omega)]; decide)]
    exact av_ct_more k (fun y h1 h2 => h y h1 (by omega))
theorem er_bits {m n : Nat} (hn : n ≤ 8) (hm : m < 2 ^ n) : av_ct (fun y => m.testBit y) 8 = av_ct (fun y => m.testBit y) n := by
  have := av_ct_more (P := fun y => m.testBit y) (n := n) (8 - n) (fun y h1 _ => Nat.testBit_lt_two_pow (Nat.lt_of_lt_of_le hm (Nat.pow_le_pow_right (by decide) h1)))
  rw [show n + (8 - n) = 8 by omega] at this
  exact this
theorem er_w_le {T : Nat} (hT : T ≤ 20) (m : Nat) : ∀ i, er_w T m i ≤ 19 ^ i
  | 0 => Nat.le_refl _
  | i + 1 => by
    rw [er_w, Nat.pow_succ]
    exact Nat.mul_le_mul (er_w_le hT m i) (by split <;> omega)
def er_t (S : av_V) (p n T v : Nat) : Nat → Nat
  | 0 => 0
  | m + 1 => if er_c S p m n 7 p < v then er_t S p n T v m else er_t S p n T v m + er_w T m n
theorem er_t_leK {S : av_V} {p n T v K : Nat} (hT : T ≤ 20) (hn : n ≤ 7) (hK : 19 ^ 7 ≤ K) : ∀ m, er_t S p n T v m ≤ m * K
  | 0 => by rw [er_t]; exact Nat.zero_le _
  | m + 1 => by
    have h1 := er_t_leK (S := S) (p := p) (v := v) hT hn hK m
    have h2 : er_w T m n ≤ K := Nat.le_trans (Nat.le_trans (er_w_le hT m n) (Nat.pow_le_pow_right (by decide) hn)) hK
    rw [er_t, Nat.add_mul, Nat.one_mul]
    split
    · exact Nat.le_trans h1 (Nat.le_add_right _ _)
    · exact Nat.add_le_add h1 h2
theorem er_t_le {S : av_V} {p n T v : Nat} (hT : T ≤ 20) (hn : n ≤ 7) {m : Nat} (hm : m ≤ 128) : er_t S p n T v m < 1099511627776 :=
  Nat.lt_of_le_of_lt (Nat.le_trans (er_t_leK hT hn (Nat.le_refl _) m) (Nat.mul_le_mul_right _ hm)) (by decide)
theorem pc_power {a k : Nat} (ha : a ≤ 20) (hk : k ≤ 8) : f_X8_power (nI a) (nI k) = some (gN (a ^ k)) := by
  unfold f_X8_power
  refine lb_loop (fun n i => f_X8_power_5 n (nI a) (nI k) (gN (a ^ i)) (nI i)) k lb_N _ (by rw [lb_N300]; omega) (fun n i hi => ?_) (fun n => ?_)
  · show f_X8_power_5 (n + 1) _ _ _ _ = _
    rw [f_X8_power_5, if_neg (by rw [lb_le (by omega) (by omega)]; omega), gI_l (by omega), gN_mul, lb_letS, show nI i + 1 = nI (i + 1) from nI_1 _, Nat.pow_succ]
  · show f_X8_power_5 (n + 1) _ _ _ _ = _
    rw [f_X8_power_5, if_pos (by rw [lb_le (by omega) (by omega)]; omega)]
def ft_e4 (x2 x3 x4 : Int32) : Nat := if x2 < 0 then 4 else if x4 < 0 then 4 else if (2 : Int32) ≤ x3 then 0 else 4
def ft_e6 (x2 x3 x4 : Int32) : Nat := if (7 : Int32) < x2 then 6 else if (20 : Int32) < x3 then 6 else if x4 ≤ (99 : Int32) then 0 else 6
theorem ft_e47 (x2 x3 x4 : Int32) : ft_e4 x2 x3 x4 < 7 := by unfold ft_e4; repeat (first | split | decide)
theorem ft_e67 (x2 x3 x4 : Int32) : ft_e6 x2 x3 x4 < 7 := by unfold ft_e6; repeat (first | split | decide)
theorem pc_errs0 {σ : lb_Mem} {S : av_V} (hc : rs_C σ S) (x1 x2 x3 x4 x5 : Int32) : f_X8_errs x1 x2 x3 x4 x5 σ = f_X8_errs_50 x1 x2 x3 x4 x5 σ (-(nI (ft_q S x1))) (-(nI (ft_e4 x2 x3 x4))) (-(nI (ft_e6 x2 x3 x4))) := by
  have h6 : ∀ y0 y1, f_X8_errs_25 x1 x2 x3 x4 x5 σ y0 y1 = f_X8_errs_50 x1 x2 x3 x4 x5 σ y0 y1 (-(nI (ft_e6 x2 x3 x4))) := by
    intro y0 y1
    unfold f_X8_errs_25 f_X8_errs_44 ft_e6
    by_cases c1 : (7 : Int32) < x2
    · rw [if_pos c1, if_pos c1]; rfl
    rw [if_neg c1, if_neg c1]
    by_cases c2 : (20 : Int32) < x3
    · rw [if_pos c2, if_pos c2]; rfl
    rw [if_neg c2, if_neg c2]
    by_cases c3 : x4 ≤ (99 : Int32)
    · rw [if_pos c3, if_pos c3]; rfl
    rw [if_neg c3, if_neg c3]; rfl
  unfold f_X8_errs f_X8_errs_19
  rw [h6, h6, pc_personThere hc]
  unfold ft_e4
  by_cases c1 : x2 < 0
  · rw [if_pos c1, if_pos c1]; rfl
  rw [if_neg c1, if_neg c1]
  by_cases c2 : x4 < 0
  · rw [if_pos c2, if_pos c2]; rfl
  rw [if_neg c2, if_neg c2]
  by_cases c3 : (2 : Int32) ≤ x3
  · rw [if_pos c3, if_pos c3]; rfl
  rw [if_neg c3, if_neg c3]; rfl
def ft_er (S : av_V) (x1 x2 x3 x4 x5 : Int32) : Nat := ft_f (ft_f (ft_q S x1) (ft_e4 x2 x3 x4)) (ft_f (ft_e6 x2 x3 x4) (ft_k x5 1))
theorem ft_er7 (S : av_V) (x1 x2 x3 x4 x5 : Int32) : ft_er S x1 x2 x3 x4 x5 < 7 := ft_f7 (ft_f7 (ft_q7 _ _) (ft_e47 _ _ _)) (ft_f7 (ft_e67 _ _ _) (ft_k7 _ _))
theorem pc_errs1 {σ : lb_Mem} {S : av_V} (hc : rs_C σ S) (x1 x2 x3 x4 x5 : Int32) : f_X8_errs x1 x2 x3 x4 x5 σ = if -(nI (ft_er S x1 x2 x3 x4 x5)) = 0 then f_X8_errs_82 lb_N x1 x2 x3 x4 x5 (0 : Int64) (0 : Int32) σ else (f_X8_refuseFarthest (-(nI (ft_er S x1 x2 x3 x4 x5))) σ).bind (fun q72 => some (q72.1, q72.2)) := by
  rw [pc_errs0 hc, f_X8_errs_50, f_X8_first_, pc_known, pc_first (ft_q7 _ _), pc_first (ft_e67 _ _ _), pc_first (ft_f7 (ft_q7 _ _) (ft_e47 _ _ _)), lb_letS]
  rfl
theorem ft_e40 {x2 x3 x4 : Int32} (h : ft_e4 x2 x3 x4 = 0) : ¬ x2 < 0 ∧ ¬ x4 < 0 ∧ (2 : Int32) ≤ x3 := by
  unfold ft_e4 at h
  by_cases c1 : x2 < 0
  · rw [if_pos c1] at h; cases h
  rw [if_neg c1] at h
  by_cases c2 : x4 < 0
  · rw [if_pos c2] at h; cases h
  rw [if_neg c2] at h
  by_cases c3 : (2 : Int32) ≤ x3
  · exact ⟨c1, c2, c3⟩
  rw [if_neg c3] at h; cases h
theorem ft_e60 {x2 x3 x4 : Int32} (h : ft_e6 x2 x3 x4 = 0) : ¬ (7 : Int32) < x2 ∧ ¬ (20 : Int32) < x3 ∧ x4 ≤ (99 : Int32) := by
  unfold ft_e6 at h
  by_cases c1 : (7 : Int32) < x2
  · rw [if_pos c1] at h; cases h
  rw [if_neg c1] at h
  by_cases c2 : (20 : Int32) < x3
  · rw [if_pos c2] at h; cases h
  rw [if_neg c2] at h
  by_cases c3 : x4 ≤ (99 : Int32)
  · exact ⟨c1, c2, c3⟩
  rw [if_neg c3] at h; cases h
theorem lb_in {x : Int32} {a b : Nat} (ha : a < 2147483648) (hb : b < 2147483648) (h1 : ¬ x < nI a) (h2 : ¬ nI b < x) : ∃ n, a ≤ n ∧ n ≤ b ∧ x = nI n := ft_w0 ha hb (by unfold ft_w; rw [if_neg h1, if_neg h2])
