/-! long numbers -/
abbrev gN (n : Nat) : Int64 := Int64.ofNat n
theorem gN_i {n : Nat} (h : n < 1099511627776) : (gN n).toInt = n := lg_ofNat_toInt (by omega)
theorem gN_eq {a b : Nat} (ha : a < 1099511627776) (hb : b < 1099511627776) : (gN a = gN b) ↔ a = b := by
  rw [← Int64.toInt_inj, gN_i ha, gN_i hb]; omega
theorem gN_z {a : Nat} (ha : a < 1099511627776) : (gN a = (0 : Int64)) ↔ a = 0 := gN_eq ha (b := 0) (by decide)
theorem gN_lt {a b : Nat} (ha : a < 1099511627776) (hb : b < 1099511627776) : (gN a < gN b) ↔ a < b := by
  rw [Int64.lt_iff_toInt_lt, gN_i ha, gN_i hb]; omega
theorem gN_rem {a b : Nat} (ha : a < 1099511627776) (hb : b < 1099511627776) : gN a - gN a / gN b * gN b = gN (a % b) := by
  rw [← Int64.toInt_inj, Jvm.Kit.i64_rem_nonneg (by rw [gN_i ha]; omega), gN_i ha, gN_i hb, gN_i (Nat.lt_of_le_of_lt (Nat.mod_le a b) ha)]
  exact (Int.natCast_emod a b).symm
theorem gN_div {a b : Nat} (ha : a < 1099511627776) (hb : b < 1099511627776) (h0 : 0 < b) : gN a / gN b = gN (a / b) := by
  rw [← Int64.toInt_inj, lg_ldiv_nonneg (by rw [gN_i ha]; omega) (by rw [gN_i hb]; omega), gN_i ha, gN_i hb, gN_i (Nat.lt_of_le_of_lt (Nat.div_le_self a b) ha)]
  exact (Int.natCast_ediv a b).symm
theorem gN_add (a b : Nat) : gN a + gN b = gN (a + b) := (Int64.ofNat_add a b).symm
theorem gN_mul (a b : Nat) : gN a * gN b = gN (a * b) := (Int64.ofNat_mul a b).symm
theorem nI_i {n : Nat} (h : n < 1000000000) : (nI n).toInt = n := by
  rw [show nI n = Int32.ofInt (n : Int) from rfl, Int32.toInt_ofInt]
  exact Int.bmod_eq_of_le (by show -(4294967296 / 2 : Int) ≤ n; omega) (by show (n : Int) < ((4294967296 + 1) / 2 : Int); omega)
theorem gI_l {n : Nat} (h : n < 1000000000) : (nI n).toInt64 = gN n := by
  rw [← Int64.toInt_inj, Int32.toInt_toInt64, nI_i h, gN_i (by omega)]
theorem gN_nz {b : Nat} (hb : b < 1099511627776) (h0 : 0 < b) : (gN b != 0) = true := by
  rw [bne_iff_ne]
  exact fun z => absurd ((gN_z hb).mp z) (by omega)
theorem gN_c0 : lg_cmp (gN 0) (0 : Int64) = 0 := (lg_cmp_eq _ _).mpr rfl
theorem lb_half {a b : Nat} (hb : 0 < b) (h : 0 < a % b) : 2 * (b % (a % b)) < b := by
  have h1 : a % b < b := Nat.mod_lt a hb
  have h2 := Nat.mod_lt b h
  have h3 := Nat.div_add_mod b (a % b)
  have h4 : 1 ≤ b / (a % b) := (Nat.le_div_iff_mul_le h).mpr (by omega)
  have h5 : a % b * 1 ≤ a % b * (b / (a % b)) := Nat.mul_le_mul_left _ h4
  omega
theorem pn_gcdD : ∀ k a b n, a < 1099511627776 → b < 1099511627776 → b < 2 ^ k → 2 * k < n → f_X9_gcd_6 n (gN a) (gN b) = some (gN (Nat.gcd a b)) := by
  intro k
  induction k with
  | zero =>
    intro a b n ha hb h1 h2
    obtain rfl : b = 0 := by omega
    obtain ⟨n, rfl⟩ : ∃ n', n = n' + 1 := ⟨n - 1, by omega⟩
    rw [f_X9_gcd_6, if_pos gN_c0, Nat.gcd_zero_right]
  | succ k ih =>
    intro a b n ha hb h1 h2
    obtain ⟨n, rfl⟩ : ∃ n', n = n' + 2 := ⟨n - 2, by omega⟩
    by_cases c : b = 0
    · subst c
      rw [f_X9_gcd_6, if_pos gN_c0, Nat.gcd_zero_right]
    · have hr : a % b < b := Nat.mod_lt a (by omega)
      rw [f_X9_gcd_6, if_neg (fun z => c ((gN_z hb).mp ((lg_cmp_eq _ _).mp z))), gN_nz hb (by omega), lb_chkT, gN_rem ha hb, lb_letS]
      by_cases c2 : a % b = 0
      · rw [c2, f_X9_gcd_6, if_pos gN_c0, Nat.gcd_comm, Nat.gcd_rec, c2, Nat.gcd_zero_left]
      · have hh := lb_half (a := a) (b := b) (by omega) (by omega)
        rw [f_X9_gcd_6, if_neg (fun z => c2 ((gN_z (by omega)).mp ((lg_cmp_eq _ _).mp z))), gN_nz (by omega) (by omega), lb_chkT, gN_rem hb (by omega), lb_letS, ih (a % b) (b % (a % b)) n (by omega) (by omega) (by rw [Nat.pow_succ] at h1; omega) (by omega)]
        rw [Nat.gcd_comm a b, Nat.gcd_rec b a, Nat.gcd_rec (a % b) b, Nat.gcd_comm]
theorem pc_gcdD : ∀ k a b n c, a < 1099511627776 → b < 1099511627776 → b < 2 ^ k → 2 * k < n → c + 2 * k < 100 → f_X8_commonDivisor_9 n (gN a) (gN b) (nI c) = some (gN (Nat.gcd a b)) := by
  intro k
  induction k with
  | zero =>
    intro a b n c' ha hb h1 h2 h3
    obtain rfl : b = 0 := by omega
    obtain ⟨n, rfl⟩ : ∃ n', n = n' + 1 := ⟨n - 1, by omega⟩
    rw [f_X8_commonDivisor_9, if_neg (by rw [lb_k100, lb_le (by omega) (by omega)]; omega), if_pos gN_c0, Nat.gcd_zero_right]
  | succ k ih =>
    intro a b n c' ha hb h1 h2 h3
    obtain ⟨n, rfl⟩ : ∃ n', n = n' + 2 := ⟨n - 2, by omega⟩
    by_cases c : b = 0
    · subst c
      rw [f_X8_commonDivisor_9, if_neg (by rw [lb_k100, lb_le (by omega) (by omega)]; omega), if_pos gN_c0, Nat.gcd_zero_right]
    · have hr : a % b < b := Nat.mod_lt a (by omega)
      rw [f_X8_commonDivisor_9, if_neg (by rw [lb_k100, lb_le (by omega) (by omega)]; omega), if_neg (fun z => c ((gN_z hb).mp ((lg_cmp_eq _ _).mp z))), gN_nz hb (by omega), lb_chkT, gN_rem ha hb, lb_letS, show nI c' + 1 = nI (c' + 1) from nI_1 _]
      by_cases c2 : a % b = 0
      · rw [c2, f_X8_commonDivisor_9, if_neg (by rw [lb_k100, lb_le (by omega) (by omega)]; omega), if_pos gN_c0, Nat.gcd_comm, Nat.gcd_rec, c2, Nat.gcd_zero_left]
      · have hh := lb_half (a := a) (b := b) (by omega) (by omega)
        rw [f_X8_commonDivisor_9, if_neg (by rw [lb_k100, lb_le (by omega) (by omega)]; omega), if_neg (fun z => c2 ((gN_z (by omega)).mp ((lg_cmp_eq _ _).mp z))), gN_nz (by omega) (by omega), lb_chkT, gN_rem hb (by omega), lb_letS, show nI (c' + 1) + 1 = nI (c' + 1 + 1) from nI_1 _, ih (a % b) (b % (a % b)) n (c' + 1 + 1) (by omega) (by omega) (by rw [Nat.pow_succ] at h1; omega) (by omega) (by omega)]
        rw [Nat.gcd_comm a b, Nat.gcd_rec b a, Nat.gcd_rec (a % b) b, Nat.gcd_comm]
theorem pn_gcd {a b : Nat} (ha : a < 1099511627776) (hb : b < 1099511627776) : f_X9_gcd (gN a) (gN b) = some (gN (Nat.gcd a b)) := pn_gcdD 40 a b lb_N ha hb hb (by decide)
theorem pc_gcd {a b : Nat} (ha : a < 1099511627776) (hb : b < 1099511627776) : f_X8_commonDivisor (gN a) (gN b) = some (gN (Nat.gcd a b)) := pc_gcdD 40 a b lb_N 0 ha hb hb (by decide) (by decide)
def av_fq (a b k : Nat) : Nat := if k = 0 then a / Nat.gcd a b else b / Nat.gcd a b
theorem lb_gle {a b : Nat} (h : 0 < b) : 0 < Nat.gcd a b ∧ Nat.gcd a b ≤ b := ⟨Nat.gcd_pos_of_pos_right a h, Nat.gcd_le_right a h⟩
theorem pc_frac {a b k : Nat} (ha : a < 1099511627776) (hb : b < 1099511627776) (h0 : 0 < b) (hk : k ≤ 1) : f_X8_ofFraction (gN a) (gN b) (nI k) = some (gN (av_fq a b k)) := by
  obtain ⟨g1, g2⟩ := lb_gle (a := a) h0
  unfold f_X8_ofFraction av_fq
  rw [pc_gcd ha hb, lb_bndS, if_neg (show ¬ gN (Nat.gcd a b) < (1 : Int64) from fun z => absurd ((gN_lt (b := 1) (by omega) (by decide)).mp z) (by omega)), lb_letS]
  by_cases c : k = 0
  · subst c
    rw [if_pos (show nI 0 = 0 from rfl), if_pos rfl, f_X8_ofFraction_21, gN_nz (by omega) g1, lb_chkT, gN_div ha (by omega) g1]
  · rw [if_neg (by rw [lb_k0, lb_eq (by omega) (by omega)]; exact c), if_neg c, f_X8_ofFraction_21, gN_nz (by omega) g1, lb_chkT, gN_div hb (by omega) g1]
theorem pn_part0 (b : Int64) {k : Nat} (hk : k ≤ 1) : f_X9_partOf (gN 0) b (nI k) = some (gN k) := by
  unfold f_X9_partOf
  rw [if_pos gN_c0, gI_l (by omega)]
theorem av_fq0 {b k : Nat} (h0 : 0 < b) (hk : k ≤ 1) : av_fq 0 b k = k := by
  unfold av_fq
  rw [Nat.gcd_zero_left]
  by_cases c : k = 0
  · subst c; rw [if_pos rfl, Nat.zero_div]
  · rw [if_neg c, Nat.div_self h0]; omega
theorem pn_part {a b k : Nat} (ha : a < 1099511627776) (hb : b < 1099511627776) (h0 : 0 < b) (hk : k ≤ 1) : f_X9_partOf (gN a) (gN b) (nI k) = some (gN (av_fq a b k)) := by
  by_cases c0 : a = 0
  · subst c0; rw [pn_part0 _ hk, av_fq0 h0 hk]
  obtain ⟨g1, g2⟩ := lb_gle (a := a) h0
  unfold f_X9_partOf av_fq
  rw [if_neg (fun z => c0 ((gN_z ha).mp ((lg_cmp_eq _ _).mp z)))]
  by_cases c : k = 0
  · subst c
    rw [if_pos (show nI 0 = 0 from rfl), if_pos rfl, f_X9_partOf_20, pn_gcd ha hb, lb_bndS, gN_nz (by omega) g1, lb_chkT, gN_div ha (by omega) g1]
  · rw [if_neg (by rw [lb_k0, lb_eq (by omega) (by omega)]; exact c), if_neg c, f_X9_partOf_20, pn_gcd ha hb, lb_bndS, gN_nz (by omega) g1, lb_chkT, gN_div hb (by omega) g1]
theorem av_sm_le {V : av_V} (hv : av_W V) : ∀ n, n ≤ 5 → av_sm (V 7) n ≤ 99 * n
  | 0, _ => Nat.le_refl _
  | n + 1, h => by have := av_sm_le hv n (by omega); have := (hv.2.2.2.2 n (by omega)).2; rw [av_sm]; omega
theorem st_mean : lb_st_mean rs_R := by
  intro σ x1 h
  refine rs_go (f8 := fun σ => f_X8_mean x1 σ) (f9 := fun σ => f_X9_mean x1 σ) h (fun S hw => ?_)
  have hv := hw.1
  have hn1 := hv.2.1
  have hs := av_sm_le hv (S 8 1) hn1
  by_cases hj : ft_k x1 1 = 0
  · obtain ⟨a, ha, rfl⟩ := ft_k0 (m := 1) (by decide) hj
    refine ⟨gN (av_fq (av_sm (S 7) (S 8 1)) (max 1 (S 8 1)) a), S, hw, fun σ hc => ?_, fun σ hm => ?_⟩
    · unfold f_X8_mean
      have e : (if (1 : Int32) < (σ 1 10) then (σ 1 10) else (1 : Int32)) = nI (max 1 (S 8 1)) := by
        rw [hc.1.nn]
        by_cases c : 1 < S 8 1
        · rw [if_pos (by rw [lb_k1, lb_lt (by omega) (by omega)]; exact c), show max 1 (S 8 1) = S 8 1 by omega]
        · rw [if_neg (by rw [lb_k1, lb_lt (by omega) (by omega)]; exact c), show max 1 (S 8 1) = 1 by omega]; rfl
      rw [pc_known, hj, lb_letS, lb_if0, pv_allGrace hc.1 hv, lb_bndS, e, gI_l (by omega), gI_l (by omega), pc_frac (by omega) (by omega) (by omega) ha, lb_bndS]
      exact hc.same
    · unfold f_X9_mean
      rw [pn_isIn0, lb_ifn ((ft_kl _ _).mp hj), pm_allGrace hm.1 hv, lb_bndS, show (1 : Int32).toNatClampNeg = 1 from rfl, hm.1.nn, gI_l (by omega), gI_l (by omega)]
      by_cases c : 0 < S 8 1
      · rw [pn_part (by omega) (by omega) c ha, lb_bndS, show max 1 (S 8 1) = S 8 1 by omega]
        exact hm.same
      · rw [show av_sm (S 7) (S 8 1) = 0 by omega, pn_part0 _ ha, lb_bndS, av_fq0 (by omega) ha]
        exact hm.same
  · refine rs_rgL hw hj (fun σ hc => ?_) (fun σ hm => ?_)
    · try dsimp only
      unfold f_X8_mean
      rw [pc_known, lb_letS, lb_ifj hj (ft_k7 _ _)]
      exact (pc_wide hc (ft_k7 _ _)).bid
    · try dsimp only
      unfold f_X9_mean
      rw [pn_isIn0, lb_if1 (fun z => hj ((ft_kl _ _).mpr z)), ft_k2 hj]
      exact (pn_wide hm (j := 2) (by decide)).bid
