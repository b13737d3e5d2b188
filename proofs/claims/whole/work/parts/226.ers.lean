theorem pn_errIn {σ : lb_Mem} {S : av_V} (hm : rs_M σ S) (hv : av_W S) {p n T v m a : Nat} (hp : p < S 8 1) (hn : n ≤ 7) (hT2 : 2 ≤ T) (hT : T ≤ 20) (hvv : v ≤ 99) (hm7 : m < 256) (x5 : Int32) (x8 : Int64) (kc : Int32 → Int32 → Int32 → Int32 → Int32 → Int64 → Int64 → Int32 → lb_Mem → Option (Int64 × lb_Mem)) : ∃ σ', av_fk 55 σ σ' ∧ (f_X9_copies 54 55 σ).bind (fun s128 => f_X9_errs_134 kc lb_N (nI p) (nI n) (nI T) (nI v) x5 (gN a) x8 (nI m) (1 : Int64) (0 : Int32) s128) = kc (nI p) (nI n) (nI T) (nI v) x5 (gN (if er_c S p m n 7 p < v then a else a + er_w T m n)) x8 (nI (m + 1)) σ' := by
  have hn1 := hv.2.1
  have h5 : p < 5 := by omega
  obtain ⟨s1, e1, h1, f1⟩ := pn_copy hm
  rw [e1, lb_bndS]
  obtain ⟨k, s, ⟨i0, i1, i2, i3⟩, e⟩ := lb_loopR (fun k (s : Int64 × Int32 × lb_Mem) => f_X9_errs_134 kc k (nI p) (nI n) (nI T) (nI v) x5 (gN a) x8 (nI m) s.1 s.2.1 s.2.2) (fun i s => s.1 = gN (er_w T m i) ∧ s.2.1 = nI i ∧ av_M 55 s.2.2 (er_m S m i) ∧ av_fk 55 σ s.2.2) n lb_N (by rw [lb_N300]; omega)
    (fun k i s hi hI => by
      obtain ⟨w, x, σ'⟩ := s
      obtain ⟨i0, i1, i2, i3⟩ := hI
      dsimp only at i0 i1 i2 i3 ⊢
      subst i0 i1
      rw [f_X9_errs_134, if_neg (by rw [lb_le (by omega) (by omega)]; omega), pn_has hm7 (show i < 8 by omega), er_m, er_w]
      by_cases c : m.testBit i = true
      · rw [if_pos c, if_pos c, if_pos c, if_neg (by decide)]
        obtain ⟨s2, e2, h2, f2⟩ := pm_errsIn i2 (er_mW hv m i)
        rw [er_m8 S m (by decide)] at h2
        obtain ⟨s3, e3, h3, f3⟩ := pm_year h2 ((er_mW hv m i).lo _)
        refine ⟨(gN (er_w T m i * 1), nI (i + 1), s3), ⟨rfl, rfl, h3, i3.tr (f2.tr f3)⟩, ?_⟩
        rw [f_X9_errs_160, pn_has hm7 (show i < 8 by omega), if_pos c, lb_letS, if_neg (by decide), show (1 : Int64) = gN 1 from rfl, gN_mul, e2, lb_bndS, f_X9_errs_180, e3, lb_bndS, show nI i + 1 = nI (i + 1) from nI_1 _]
      · rw [if_neg c, if_neg c, if_neg c, if_pos rfl]
        obtain ⟨s3, e3, h3, f3⟩ := pm_year i2 (er_mW hv m i)
        refine ⟨(gN (er_w T m i * (T - 1)), nI (i + 1), s3), ⟨rfl, rfl, h3, i3.tr f3⟩, ?_⟩
        rw [f_X9_errs_160, pn_has hm7 (show i < 8 by omega), if_neg c, lb_letS, if_pos rfl, lb_k1, lb_sb1 (by omega), gI_l (by omega), gN_mul, f_X9_errs_180, e3, lb_bndS, show nI i + 1 = nI (i + 1) from nI_1 _]) (1, nI 0, s1) ⟨rfl, rfl, h1, f1⟩
  obtain ⟨w, x, σ'⟩ := s
  dsimp only at i0 i1 i2 i3 e
  subst i0 i1
  refine ⟨σ', i3, ?_⟩
  have hb := ((er_cW hv p m n).2.2.2.2 p h5).2
  rw [lb_k0, e, f_X9_errs_134, if_pos (by rw [lb_le (by omega) (by omega)]; omega), show f_X9_ofP (nI p) (1 : Int32) = nI (51 + 2 * p + 1) from pm_oP p 1, lb_ixN (show 51 + 2 * p + 1 < 61 by omega) (by decide), lb_chkT, lb_cl (by omega), i2.p1 p h5, (er_al m hp n).2.2.2.1, show nI m + 1 = nI (m + 1) from nI_1 _]
  by_cases c : er_c S p m n 7 p < v
  · rw [if_pos c, if_pos (by rw [lb_lt (by omega) (by omega)]; exact c), show (0 : Int64) = gN 0 from rfl, gN_add, lb_letS, Nat.add_zero]
  · rw [if_neg c, if_neg (by rw [lb_lt (by omega) (by omega)]; exact c), gN_add, lb_letS]
theorem pn_errs87 {σ : lb_Mem} {n T : Nat} (hn : n ≤ 7) (hT : T ≤ 20) (x1 x4 x5 : Int32) (x6 : Int64) : f_X9_errs_87 lb_N x1 (nI n) (nI T) x4 x5 x6 (1 : Int64) (0 : Int32) σ = f_X9_errs_109 lb_N x1 (nI n) (nI T) x4 x5 x6 (gN (T ^ n)) (0 : Int32) σ := by
  refine lb_loop (fun k i => f_X9_errs_87 k x1 (nI n) (nI T) x4 x5 x6 (gN (T ^ i)) (nI i) σ) n lb_N _ (by rw [lb_N300]; omega) (fun k i hi => ?_) (fun k => ?_)
  · show f_X9_errs_87 (k + 1) _ _ _ _ _ _ _ _ _ = _
    rw [f_X9_errs_87, if_neg (by rw [lb_le (by omega) (by omega)]; omega), gI_l (by omega), gN_mul, lb_letS, show nI i + 1 = nI (i + 1) from nI_1 _, Nat.pow_succ]
  · show f_X9_errs_87 (k + 1) _ _ _ _ _ _ _ _ _ = _
    rw [f_X9_errs_87, if_pos (by rw [lb_le (by omega) (by omega)]; omega)]
theorem er_pw {n T : Nat} (hn : n ≤ 7) (hT2 : 2 ≤ T) (hT : T ≤ 20) : 0 < T ^ n ∧ T ^ n < 1099511627776 := by
  refine ⟨Nat.pow_pos (by omega), ?_⟩
  exact Nat.lt_of_le_of_lt (Nat.le_trans (Nat.pow_le_pow_left hT n) (Nat.pow_le_pow_right (by decide) hn)) (by decide)
theorem er_2n {n : Nat} (hn : n ≤ 7) : 2 ^ n ≤ 128 := Nat.le_trans (Nat.pow_le_pow_right (by decide) hn) (by decide)
theorem st_errs : lb_st_errs rs_R := by
  intro σ x1 x2 x3 x4 x5 h
  refine rs_go (f8 := fun σ => f_X8_errs x1 x2 x3 x4 x5 σ) (f9 := fun σ => f_X9_errs x1 x2 x3 x4 x5 σ) h (fun S hw => ?_)
  have hv := hw.1
  have hn1 := hv.2.1
  by_cases hj : ft_er S x1 x2 x3 x4 x5 = 0
  · obtain ⟨ha, hb⟩ := ft_f0 hj
    obtain ⟨hq, h4⟩ := ft_f0 ha
    obtain ⟨h6, hk⟩ := ft_f0 hb
    obtain ⟨p, hp, rfl⟩ := ft_q0 hv hq
    obtain ⟨c41, c42, c43⟩ := ft_e40 h4
    obtain ⟨c61, c62, c63⟩ := ft_e60 h6
    obtain ⟨n, _, hn, rfl⟩ := lb_in (x := x2) (a := 0) (b := 7) (by decide) (by decide) c41 c61
    obtain ⟨T, hT2, hT, rfl⟩ := lb_in (x := x3) (a := 2) (b := 20) (by decide) (by decide) (Int32.not_lt.mpr c43) c62
    obtain ⟨v, _, hvv, rfl⟩ := lb_in (x := x4) (a := 0) (b := 99) (by decide) (by decide) c42 (Int32.not_lt.mpr c63)
    obtain ⟨a, ha1, rfl⟩ := ft_k0 (m := 1) (by decide) hk
    have h5 : p < 5 := by omega
    have h2n := er_2n hn
    obtain ⟨hp0, hp1⟩ := er_pw hn hT2 hT
    have ht := er_t_le (S := S) (p := p) (v := v) hT hn h2n
    refine ⟨gN (av_fq (er_t S p n T v (2 ^ n)) (T ^ n) a), S, hw, fun σ hc => ?_, fun σ hm => ?_⟩
    · try dsimp only
      rw [pc_errs1 hc, hj, lb_if0]
      obtain ⟨k, s, ⟨i0, i1, i3⟩, e⟩ := lb_loopR (fun k (s : Int64 × Int32 × lb_Mem) => f_X8_errs_82 k (nI p) (nI n) (nI T) (nI v) (nI a) s.1 s.2.1 s.2.2) (fun i s => s.1 = gN (er_t S p n T v i) ∧ s.2.1 = nI i ∧ av_fr 17 σ s.2.2) (2 ^ n) lb_N (by rw [lb_N300]; omega)
        (fun k i s hi hI => by
          obtain ⟨w, x, σ'⟩ := s
          obtain ⟨i0, i1, i3⟩ := hI
          dsimp only at i0 i1 i3 ⊢
          subst i0 i1
          obtain ⟨s1, e1, f1⟩ := pc_erring (hc.fr0 i3) hv h5 (show n ≤ 8 by omega) (show i < 256 by omega)
          have hb := ((er_cW hv p i n).2.2.2.2 p h5).2
          have hct := av_ct_le (fun y => i.testBit y) n
          rw [f_X8_errs_82, show (1 : Int32) <<< (nI n &&& 31) = nI (2 ^ n) from lb_shl (by omega), if_neg (by rw [lb_le (by omega) (by omega)]; omega), e1, lb_bndS, er_t, show nI i + 1 = nI (i + 1) from nI_1 _]
          by_cases c : er_c S p i n 7 p < v
          · rw [if_pos c, if_pos (by rw [lb_lt (by omega) (by omega)]; exact c)]
            exact ⟨(_, _, _), ⟨rfl, rfl, i3.tr f1⟩, rfl⟩
          · rw [if_neg c, if_neg (by rw [lb_lt (by omega) (by omega)]; exact c), lb_bcD i (by omega), er_bits (by omega) hi, lb_k1, lb_sb1 (by omega), lb_sb1 hct, pc_power (by omega) (by omega), lb_bndS, ← er_w_pow, gN_add, lb_letS]
            exact ⟨(_, _, _), ⟨rfl, rfl, i3.tr f1⟩, rfl⟩) (0, nI 0, σ) ⟨rfl, rfl, av_fr.rf _ _⟩
      obtain ⟨w, x, σ'⟩ := s
      dsimp only at i0 i1 i3 e
      subst i0 i1
      rw [lb_k0, e, f_X8_errs_82, show (1 : Int32) <<< (nI n &&& 31) = nI (2 ^ n) from lb_shl (by omega), if_pos (by rw [lb_le (by omega) (by omega)]; omega), pc_power hT (by omega), lb_bndS, pc_frac ht hp1 hp0 ha1, lb_bndS]
      exact hc.fr i3
    · try dsimp only
      unfold f_X9_errs
      rw [pn_isPerson hm hv, lb_ifn hq, if_neg c41, if_neg c42, if_pos c43, if_neg c61, if_neg c62, if_pos c63, pn_isIn0, lb_ifn ((ft_kl _ _).mp hk), pn_errs87 hn hT]
      obtain ⟨k, s, ⟨i0, i1, i3⟩, e⟩ := lb_loopR (fun k (s : Int64 × Int32 × lb_Mem) => f_X9_errs_109 k (nI p) (nI n) (nI T) (nI v) (nI a) s.1 (gN (T ^ n)) s.2.1 s.2.2) (fun i s => s.1 = gN (er_t S p n T v i) ∧ s.2.1 = nI i ∧ av_fk 55 σ s.2.2) (2 ^ n) lb_N (by rw [lb_N300]; omega)
        (fun k i s hi hI => by
          obtain ⟨w, x, σ'⟩ := s
          obtain ⟨i0, i1, i3⟩ := hI
          dsimp only at i0 i1 i3 ⊢
          subst i0 i1
          obtain ⟨s1, f1, e1⟩ := pn_errIn (hm.fk0 i3) hv (a := er_t S p n T v i) hp hn hT2 hT hvv (show i < 256 by omega) (nI a) (gN (T ^ n)) (fun (x1 : Int32) (x2 : Int32) (x3 : Int32) (x4 : Int32) (x5 : Int32) (x6 : Int64) (x8 : Int64) (x10 : Int32) (σ : lb_Mem) => f_X9_errs_109 k x1 x2 x3 x4 x5 x6 x8 x10 σ)
          refine ⟨(_, _, _), ⟨rfl, rfl, i3.tr f1⟩, ?_⟩
          rw [f_X9_errs_109, show (1 : Int32) <<< (nI n &&& 31) = nI (2 ^ n) from lb_shl (by omega), if_neg (by rw [lb_le (by omega) (by omega)]; omega), e1]
          rfl) (0, nI 0, σ) ⟨rfl, rfl, av_fk.rf _ _⟩
      obtain ⟨w, x, σ'⟩ := s
      dsimp only at i0 i1 i3 e
      subst i0 i1
      rw [lb_k0, e, f_X9_errs_109, show (1 : Int32) <<< (nI n &&& 31) = nI (2 ^ n) from lb_shl (by omega), if_pos (by rw [lb_le (by omega) (by omega)]; omega), pn_part ht hp1 hp0 ha1, lb_bndS]
      exact hm.fk i3
  · refine rs_rgL hw hj (fun σ hc => ?_) (fun σ hm => ?_)
    · try dsimp only
      rw [pc_errs1 hc, lb_ifj hj (ft_er7 _ _ _ _ _ _)]
      exact (pc_wide hc (ft_er7 _ _ _ _ _ _)).bid
    · try dsimp only
      unfold f_X9_errs
      rw [pn_isPerson hm hv]
      by_cases hq : ft_q S x1 = 0
      · rw [lb_ifn hq]
        unfold ft_er at hj ⊢
        rw [ft_fz hq] at hj ⊢
        unfold ft_e4 at hj ⊢
        unfold f_X9_errs_28 f_X9_errs_54
        by_cases c1 : x2 < 0
        · rw [if_pos c1] at hj ⊢; rw [if_pos c1]; exact (pn_wide hm (j := 4) (by decide)).bid
        rw [if_neg c1] at hj ⊢; rw [if_neg c1]
        by_cases c2 : x4 < 0
        · rw [if_pos c2] at hj ⊢; rw [if_pos c2]; exact (pn_wide hm (j := 4) (by decide)).bid
        rw [if_neg c2] at hj ⊢; rw [if_neg c2]
        by_cases c3 : (2 : Int32) ≤ x3
        · rw [if_pos c3] at hj ⊢; rw [if_pos c3]
          rw [ft_fz rfl] at hj ⊢
          unfold ft_e6 at hj ⊢
          by_cases c4 : (7 : Int32) < x2
          · rw [if_pos c4] at hj ⊢; rw [if_pos c4]; exact (pn_wide hm (j := 6) (by decide)).bid
          rw [if_neg c4] at hj ⊢; rw [if_neg c4]
          by_cases c5 : (20 : Int32) < x3
          · rw [if_pos c5] at hj ⊢; rw [if_pos c5]; exact (pn_wide hm (j := 6) (by decide)).bid
          rw [if_neg c5] at hj ⊢; rw [if_neg c5]
          by_cases c6 : x4 ≤ (99 : Int32)
          · rw [if_pos c6] at hj ⊢; rw [if_pos c6]
            rw [ft_fz rfl] at hj ⊢
            rw [pn_isIn0, lb_if1 (fun z => hj ((ft_kl _ _).mpr z)), ft_k2 hj]
            exact (pn_wide hm (j := 2) (by decide)).bid
          · rw [if_neg c6] at hj ⊢; rw [if_neg c6]; exact (pn_wide hm (j := 6) (by decide)).bid
        · rw [if_neg c3] at hj ⊢; rw [if_neg c3]; exact (pn_wide hm (j := 4) (by decide)).bid
      · rw [lb_if1 hq]
        unfold ft_er
        rw [ft_fn (i := ft_f (ft_q S x1) (ft_e4 x2 x3 x4)) (by rw [ft_fn hq]; exact hq), ft_fn hq, ft_q1 hq]
        exact (pn_wide hm (j := 1) (by decide)).bid
