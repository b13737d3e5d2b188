theorem gI_rem (x y : Int32) : (x - (x / y) * y).toInt = x.toInt.tmod y.toInt := by
  have a := (x % y).toInt_lt
  have b := (x % y).le_toInt
  rw [Int32.toInt_mod] at a b
  rw [Int32.toInt_sub, Int32.toInt_mul, Int32.toInt_div, Int.bmod_mul_bmod, Int.sub_bmod_bmod, Int.mul_comm, ← Int.tmod_def]
  exact Int.bmod_eq_of_le (by show -(4294967296 / 2 : Int) ≤ _; omega) (by show _ < ((4294967296 + 1) / 2 : Int); omega)
/-- drawn from a seed -/
def dnx (s k : Int32) : Int32 := ((s &&& (2147483647 : Int32)) / (256 : Int32)) - ((s &&& (2147483647 : Int32)) / (256 : Int32)) / k * k
def dn (s : Int32) (k : Nat) : Nat := (dnx s (nI k)).toInt.toNat
theorem dn_in (s : Int32) {k : Nat} (h0 : 0 < k) (hk : k < 100) : dnx s (nI k) = nI (dn s k) ∧ dn s k < k := by
  have hz : (s &&& (2147483647 : Int32)).toInt = s.toInt % 2 ^ 31 := Jvm.Kit.i32_mask s 2147483647 (by decide) (by decide)
  have hz0 : 0 ≤ (s &&& (2147483647 : Int32)).toInt := by rw [hz]; exact Int.emod_nonneg _ (by decide)
  have hw : ((s &&& (2147483647 : Int32)) / (256 : Int32)).toInt = (s &&& (2147483647 : Int32)).toInt.tdiv 256 := Jvm.Kit.i32_div (by rintro ⟨_, z⟩; exact absurd z (by decide))
  have hw0 : 0 ≤ ((s &&& (2147483647 : Int32)) / (256 : Int32)).toInt := by rw [hw]; exact Int.tdiv_nonneg hz0 (by decide)
  have hr : (dnx s (nI k)).toInt = ((s &&& (2147483647 : Int32)) / (256 : Int32)).toInt % (k : Int) := by
    unfold dnx
    rw [gI_rem, nI_i (by omega), Int.tmod_eq_emod_of_nonneg hw0]
  have r0 : 0 ≤ (dnx s (nI k)).toInt := by rw [hr]; exact Int.emod_nonneg _ (by omega)
  have r1 : (dnx s (nI k)).toInt < k := by rw [hr]; exact Int.emod_lt_of_pos _ (by omega)
  constructor
  · unfold dn
    rw [← Int32.toInt_inj, nI_i (by omega)]
    omega
  · unfold dn; omega
theorem pc_drawn7 (s : Int32) : f_X8_drawn s (7 : Int32) = some (nI (dn s 7)) := by
  unfold f_X8_drawn
  rw [if_pos (show (1 : Int32) < 7 by decide), show ((7 : Int32) != 0) = true by decide, lb_chkT]
  exact congrArg some (dn_in s (k := 7) (by decide) (by decide)).1
theorem pc_drawn10 (s : Int32) : f_X8_drawn s (10 : Int32) = some (nI (dn s 10)) := by
  unfold f_X8_drawn
  rw [if_pos (show (1 : Int32) < 10 by decide), show ((10 : Int32) != 0) = true by decide, lb_chkT]
  exact congrArg some (dn_in s (k := 10) (by decide) (by decide)).1
theorem pn_drawn7 (σ : lb_Mem) : f_X9_drawn (7 : Int32) σ = some (nI (dn (f_X8_nextSeed (σ 53 12)) 7), lb_sto σ 53 12 (f_X8_nextSeed (σ 53 12))) := by
  have h : ∀ s : Int32, lb_let (lb_sto σ 53 12 s) (fun s11 : lb_Mem => lb_chk ((7 : Int32) != 0) (some (dnx (s11 53 12) (7 : Int32), s11))) = some (nI (dn s 7), lb_sto σ 53 12 s) := by
    intro s
    rw [lb_letS, show ((7 : Int32) != 0) = true by decide, lb_chkT, lb_sto_s, lb_k7, (dn_in s (k := 7) (by decide) (by decide)).1]
  exact h _
theorem pn_drawn10 (σ : lb_Mem) : f_X9_drawn (10 : Int32) σ = some (nI (dn (f_X8_nextSeed (σ 53 12)) 10), lb_sto σ 53 12 (f_X8_nextSeed (σ 53 12))) := by
  have h : ∀ s : Int32, lb_let (lb_sto σ 53 12 s) (fun s11 : lb_Mem => lb_chk ((10 : Int32) != 0) (some (dnx (s11 53 12) (10 : Int32), s11))) = some (nI (dn s 10), lb_sto σ 53 12 s) := by
    intro s
    rw [lb_letS, show ((10 : Int32) != 0) = true by decide, lb_chkT, lb_sto_s, lb_k10, (dn_in s (k := 10) (by decide) (by decide)).1]
  exact h _
/-- seeds and villages by lot -/
def lq_s (s : Int32) : Nat → Int32
  | 0 => s
  | i + 1 => f_X8_nextSeed (f_X8_nextSeed (lq_s s i))
def lq_v (S : av_V) (s : Int32) : Nat → av_V
  | 0 => S
  | i + 1 => av_st (av_st (lq_v S s i) 3 i (dn (f_X8_nextSeed (lq_s s i)) 7)) 4 i (dn (f_X8_nextSeed (f_X8_nextSeed (lq_s s i))) 10)
theorem lq_vW {S : av_V} (hv : av_W S) (s : Int32) : ∀ i, av_W (lq_v S s i)
  | 0 => hv
  | i + 1 => by
    have h1 := (dn_in (f_X8_nextSeed (lq_s s i)) (k := 7) (by decide) (by decide)).2
    have h2 := (dn_in (f_X8_nextSeed (f_X8_nextSeed (lq_s s i))) (k := 10) (by decide) (by decide)).2
    exact ((lq_vW hv s i).set (by omega)).set (by omega)
theorem lq_v8 (S : av_V) (s : Int32) (j : Nat) : ∀ i, lq_v S s i 8 j = S 8 j
  | 0 => rfl
  | i + 1 => by rw [lq_v, av_st_a _ (by decide), av_st_a _ (by decide)]; exact lq_v8 S s j i
/-- after i rounds: the seed, the graces, the graceless -/
def lq_S (S : av_V) (s : Int32) : Nat → Int32
  | 0 => s
  | i + 1 => lq_s (lq_S S s i) (S 8 0)
def lq_V (S : av_V) (s : Int32) (i : Nat) : av_V := lq_v S (lq_S S s i) (S 8 0)
def lq_g (S : av_V) (s : Int32) (i : Nat) : Nat := av_al7 (lq_V S s i) 6
def lq_z (S : av_V) (s : Int32) (i : Nat) : Nat := av_ct (fun p => decide (av_ys (lq_V S s i) 6 7 p = 0)) (S 8 1)
theorem lq_V8 (S : av_V) (s : Int32) (i j : Nat) : lq_V S s i 8 j = S 8 j := lq_v8 S _ j _
theorem lq_VW {S : av_V} (hv : av_W S) (s : Int32) (i : Nat) : av_W (lq_V S s i) := lq_vW hv _ _
theorem pc_lotIn {σ : lb_Mem} {S : av_V} (hc : rs_C σ S) (hv : av_W S) (s : Int32) (kc : Int32 → Int32 → Int32 → Int32 → Int32 → Int32 → lb_Mem → Option (Int32 × lb_Mem)) (x1 x3 : Int32) (a b i : Nat) : ∃ σ1, (f_X7_become 17 1 σ).bind (fun s55 => f_X8_lots_61 kc lb_N x1 x3 s (nI a) (nI b) (nI i) (0 : Int32) s55) = kc x1 x3 (lq_s s (S 8 0)) (nI (a + av_al7 (lq_v S s (S 8 0)) 6)) (nI (b + av_ct (fun p => decide (av_ys (lq_v S s (S 8 0)) 6 7 p = 0)) (S 8 1))) (nI (i + 1)) σ1 ∧ av_fr 17 σ σ1 := by
  have hn := hv.1
  obtain ⟨s1, e1, h1, f1⟩ := pc_mind hc
  rw [e1, lb_bndS, lb_k0]
  obtain ⟨n, st, ⟨i0, i1, i2, i3⟩, e⟩ := lb_loopR (fun n (st : Int32 × Int32 × lb_Mem) => f_X8_lots_61 kc n x1 x3 st.1 (nI a) (nI b) (nI i) st.2.1 st.2.2) (fun j st => st.1 = lq_s s j ∧ st.2.1 = nI j ∧ av_C 17 st.2.2 (lq_v S s j) ∧ av_fr 17 σ st.2.2) (S 8 0) lb_N (by rw [lb_N300]; omega)
    (fun n j st hj hI => by
      obtain ⟨w, x, σ'⟩ := st
      obtain ⟨i0, i1, i2, i3⟩ := hI
      dsimp only at i0 i1 i2 i3 ⊢
      subst i0 i1
      have j8 : j < 8 := by omega
      have g1 := i2.set (a := 3) (t := j) (dn (f_X8_nextSeed (lq_s s j)) 7) (by decide) j8
      have g2 := g1.set (a := 4) (t := j) (dn (f_X8_nextSeed (f_X8_nextSeed (lq_s s j))) 10) (by decide) j8
      refine ⟨(lq_s s (j + 1), nI (j + 1), _), ⟨rfl, rfl, g2, (i3.tr (av_fr.sto (by omega) (by omega))).tr (av_fr.sto (by omega) (by omega))⟩, ?_⟩
      rw [f_X8_lots_61, i2.np, lq_v8, if_neg (by rw [lb_le (by omega) (by omega)]; omega), lb_letS, pc_drawn7, lb_bndS, lb_ixN j8 (by decide), lb_chkT, lb_letS, lb_letS, pc_drawn10, lb_bndS, lb_chkT, lb_letS, lb_cl (by omega), show nI j + 1 = nI (j + 1) from nI_1 _]
      rfl) (s, nI 0, s1) ⟨rfl, rfl, h1, f1⟩
  obtain ⟨w, x, σ'⟩ := st
  dsimp only at i0 i1 i2 i3 e
  subst i0 i1
  obtain ⟨s4, e4, h4, f4⟩ := pv_pass i2 (lq_vW hv s (S 8 0)) (show 6 ≤ 60 by decide)
  have g4 : f_X7_allGrace s4 17 = some (nI (av_al7 (lq_v S s (S 8 0)) 6)) := by rw [pv_allGrace h4 ((lq_vW hv s (S 8 0)).ys 6), av_ys81]; rfl
  refine ⟨s4, ?_, i3.tr f4⟩
  rw [e, f_X8_lots_61, i2.np, lq_v8, if_pos (by rw [lb_le (by omega) (by omega)]; omega), lb_k6, e4, lb_bndS, g4, lb_bndS, lb_ad1, lb_letS, pv_withoutGrace h4 ((lq_vW hv s (S 8 0)).ys 6), lb_bndS, lb_ad1, lb_letS, av_ys81, lq_v8, show nI i + 1 = nI (i + 1) from nI_1 _]
/-- the model with its seed -/
def lq_I (S : av_V) (σ : lb_Mem) (s : Int32) (σ' : lb_Mem) : Prop := rs_M σ' S ∧ σ' 53 12 = s ∧ ∀ k, k < 53 → σ' k = σ k
theorem rs_M.seed {σ : lb_Mem} {S : av_V} (h : rs_M σ S) (x : Int32) : rs_M (lb_sto σ 53 12 x) S := by
  obtain ⟨a, b, c, d, e, f, g, i⟩ := h
  exact ⟨a.cong (lb_sto_o (by decide)), b.cong (lb_sto_o (by decide)), (lb_sto_i (by decide)).trans c, (lb_sto_i (by decide)).trans d, (lb_sto_i (by decide)).trans e, fun j hj => by rw [lb_sto_o (by decide)]; exact f j hj, fun j hj => by rw [lb_sto_o (by decide)]; exact g j hj, fun j hj => by rw [lb_sto_o (by decide)]; exact i j hj⟩
theorem lq_I.seed {S : av_V} {σ σ' : lb_Mem} {s : Int32} (h : lq_I S σ s σ') (x : Int32) : lq_I S σ x (lb_sto σ' 53 12 x) := ⟨h.1.seed x, lb_sto_s _ _ _ _, fun k hk => (lb_sto_o (by omega)).trans (h.2.2 k hk)⟩
theorem lq_I.fk {S : av_V} {σ σ' σ2 : lb_Mem} {s : Int32} (h : lq_I S σ s σ') (f : av_fk 55 σ' σ2) : lq_I S σ s σ2 := ⟨h.1.fk0 f, by rw [f 53 (by decide)]; exact h.2.1, fun k hk => (f k (by omega)).trans (h.2.2 k hk)⟩
theorem pn_lotZ {σ : lb_Mem} {S V : av_V} (hm : rs_M σ S) (hv1 : S 8 1 ≤ 5) (h : av_M 55 σ V) (hv : av_W V) (kc : Int32 → Int32 → Int32 → Int32 → lb_Mem → Option (Int32 × lb_Mem)) (x1 : Int32) (a i : Nat) : f_X9_lots_135 kc lb_N x1 (1 : Int32) (nI a) (nI i) (0 : Int32) σ = kc x1 (1 : Int32) (nI (a + av_ct (fun p => decide (V 7 p = 0)) (S 8 1))) (nI (i + 1)) σ := by
  refine lb_loop (fun n j => f_X9_lots_135 kc n x1 (1 : Int32) (nI (a + av_ct (fun p => decide (V 7 p = 0)) j)) (nI i) (nI j) σ) (S 8 1) lb_N _ (by rw [lb_N300]; omega) (fun n j hj => ?_) (fun n => ?_)
  · show f_X9_lots_135 kc (n + 1) _ _ _ _ _ _ = _
    have hb := (hv.2.2.2.2 j (by omega)).2
    rw [f_X9_lots_135, show (1 : Int32).toNatClampNeg = 1 from rfl, hm.1.nn, if_neg (by rw [lb_le (by omega) (by omega)]; omega), if_pos rfl, show f_X9_ofP (nI j) (1 : Int32) = nI (51 + 2 * j + 1) from pm_oP j 1, lb_ixN (show 51 + 2 * j + 1 < 61 by omega) (by decide), lb_chkT, lb_letS, lb_letS, lb_cl (by omega), h.p1 j (by omega), show nI j + 1 = nI (j + 1) from nI_1 _, av_ct]
    by_cases c : V 7 j = 0
    · rw [if_pos (show nI (V 7 j) = 0 by rw [c]; rfl), if_pos (show decide (V 7 j = 0) = true from decide_eq_true c), show nI (a + av_ct (fun p => decide (V 7 p = 0)) j) + 1 = nI (a + av_ct (fun p => decide (V 7 p = 0)) j + 1) from nI_1 _, Nat.add_assoc]
    · rw [if_neg (show ¬ nI (V 7 j) = 0 by rw [lb_k0, lb_eq (by omega) (by omega)]; exact c), if_neg (show ¬ decide (V 7 j = 0) = true from fun z => c (of_decide_eq_true z)), lb_k0, lb_ad1, Nat.add_zero]
  · show f_X9_lots_135 kc (n + 1) _ _ _ _ _ _ = _
    rw [f_X9_lots_135, show (1 : Int32).toNatClampNeg = 1 from rfl, hm.1.nn, if_pos (by rw [lb_le (by omega) (by omega)]; omega), f_X9_lots_181, if_neg (by decide), lb_letS, lb_k0, lb_ad1, Nat.add_zero, show nI i + 1 = nI (i + 1) from nI_1 _]
theorem pn_lotG {σ : lb_Mem} {S : av_V} {g : Nat} (hm : rs_M σ S) (hg : f_X9_allGrace σ 55 = some (nI g)) (kc : Int32 → Int32 → Int32 → Int32 → lb_Mem → Option (Int32 × lb_Mem)) (x1 : Int32) (a i : Nat) : f_X9_lots_135 kc lb_N x1 (0 : Int32) (nI a) (nI i) (0 : Int32) σ = kc x1 (0 : Int32) (nI (a + g)) (nI (i + 1)) σ := by
  have h1 : f_X9_lots_181 kc x1 (0 : Int32) (nI a) (nI i) σ = kc x1 (0 : Int32) (nI (a + g)) (nI (i + 1)) σ := by
    rw [f_X9_lots_181, if_pos rfl, hg, lb_bndS, lb_letS, lb_ad1, show nI i + 1 = nI (i + 1) from nI_1 _]
  rw [show lb_N = 299 + 1 from rfl, f_X9_lots_135, h1, if_neg (show ¬ (0 : Int32) = 1 by decide)]
  split <;> rfl
theorem pn_lotIn {σ σ0 : lb_Mem} {S : av_V} (s : Int32) (hI : lq_I S σ0 s σ) (hv : av_W S) (kc : Int32 → Int32 → Int32 → Int32 → lb_Mem → Option (Int32 × lb_Mem)) (x1 : Int32) {c : Nat} (hc : c ≤ 1) (a i : Nat) : ∃ σ1, (f_X9_copies 54 55 σ).bind (fun s66 => f_X9_lots_72 kc lb_N x1 (nI c) (nI a) (nI i) (0 : Int32) s66) = kc x1 (nI c) (nI (a + if c = 0 then av_al7 (lq_v S s (S 8 0)) 6 else av_ct (fun p => decide (av_ys (lq_v S s (S 8 0)) 6 7 p = 0)) (S 8 1))) (nI (i + 1)) σ1 ∧ lq_I S σ0 (lq_s s (S 8 0)) σ1 := by
  have hn := hv.1
  obtain ⟨s1, e1, h1, f1⟩ := pn_copy hI.1
  rw [e1, lb_bndS, lb_k0]
  obtain ⟨n, st, ⟨i1, i2, i3⟩, e⟩ := lb_loopR (fun n (st : Int32 × lb_Mem) => f_X9_lots_72 kc n x1 (nI c) (nI a) (nI i) st.1 st.2) (fun j st => st.1 = nI j ∧ av_M 55 st.2 (lq_v S s j) ∧ lq_I S σ0 (lq_s s j) st.2) (S 8 0) lb_N (by rw [lb_N300]; omega)
    (fun n j st hj hI => by
      obtain ⟨x, σ'⟩ := st
      obtain ⟨i1, i2, i3⟩ := hI
      dsimp only at i1 i2 i3 ⊢
      subst i1
      have j8 : j < 8 := by omega
      have k1 := i3.seed (f_X8_nextSeed (lq_s s j))
      have g1 := (i2.cong (σ' := lb_sto σ' 53 12 (f_X8_nextSeed (lq_s s j))) (lb_sto_o (by decide))).setT (a := 3) (t := j) (dn (f_X8_nextSeed (lq_s s j)) 7) (by decide) j8
      have k2 := k1.fk (av_fk.sto (i := 3 + 6 * j + 3) (v := nI (dn (f_X8_nextSeed (lq_s s j)) 7)))
      have k3 := k2.seed (f_X8_nextSeed (f_X8_nextSeed (lq_s s j)))
      have g2 := (g1.cong (σ' := lb_sto (lb_sto (lb_sto σ' 53 12 (f_X8_nextSeed (lq_s s j))) 55 (3 + 6 * j + 3) (nI (dn (f_X8_nextSeed (lq_s s j)) 7))) 53 12 (f_X8_nextSeed (f_X8_nextSeed (lq_s s j)))) (lb_sto_o (by decide))).setT (a := 4) (t := j) (dn (f_X8_nextSeed (f_X8_nextSeed (lq_s s j))) 10) (by decide) j8
      have k4 := k3.fk (av_fk.sto (i := 3 + 6 * j + 4) (v := nI (dn (f_X8_nextSeed (f_X8_nextSeed (lq_s s j))) 10)))
      refine ⟨(nI (j + 1), _), ⟨rfl, g2, k4⟩, ?_⟩
      rw [f_X9_lots_72, show (0 : Int32).toNatClampNeg = 0 from rfl, i3.1.1.np, if_neg (by rw [lb_le (by omega) (by omega)]; omega), pn_drawn7, lb_bndS, i3.2.1, show f_X9_ofT (nI j) (3 : Int32) = nI (3 + 6 * j + 3) from pm_oT j 3, show f_X9_ofT (nI j) (4 : Int32) = nI (3 + 6 * j + 4) from pm_oT j 4, lb_ixN (show 3 + 6 * j + 3 < 61 by omega) (by decide), lb_chkT, lb_letS, lb_cl (show 3 + 6 * j + 3 < 2147483648 by omega), pn_drawn10, lb_bndS]
      dsimp only
      rw [k2.2.1, lb_ixN (show 3 + 6 * j + 4 < 61 by omega) (by decide), lb_chkT, lb_letS, lb_cl (show 3 + 6 * j + 4 < 2147483648 by omega), show nI j + 1 = nI (j + 1) from nI_1 _]
      rfl) (nI 0, s1) ⟨rfl, h1, hI.fk f1⟩
  obtain ⟨x, σ'⟩ := st
  dsimp only at i1 i2 i3 e
  subst i1
  obtain ⟨s4, e4, h4, f4⟩ := pm_yearsOn i2 (lq_vW hv s (S 8 0)) (show 6 ≤ 60 by decide)
  have g4 : f_X9_allGrace s4 55 = some (nI (av_al7 (lq_v S s (S 8 0)) 6)) := by rw [pm_allGrace h4 ((lq_vW hv s (S 8 0)).ys 6), av_ys81]; rfl
  have k4 := i3.fk f4
  refine ⟨s4, ?_, k4⟩
  rw [e, f_X9_lots_72, show (0 : Int32).toNatClampNeg = 0 from rfl, i3.1.1.np, if_pos (by rw [lb_le (by omega) (by omega)]; omega), lb_k6, e4, lb_bndS]
  by_cases c0 : c = 0
  · subst c0
    rw [if_pos rfl, ← lb_k0]
    exact pn_lotG k4.1 g4 kc x1 a i
  · obtain rfl : c = 1 := by omega
    rw [if_neg c0]
    exact pn_lotZ k4.1 hv.2.1 h4 ((lq_vW hv s (S 8 0)).ys 6) kc x1 a i
theorem st_lots : lb_st_lots rs_R := by
  intro σ x1 x2 x3 h
  refine rs_go (f8 := fun σ => f_X8_lots x1 x2 x3 σ) (f9 := fun σ => f_X9_lots x1 x2 x3 σ) h (fun S hw => ?_)
  have hv := hw.1
  have hn := hv.1
  by_cases hj : ft_f (ft_w x1 1 20) (ft_k x3 1) = 0
  · obtain ⟨hp, hk⟩ := ft_f0 hj
    obtain ⟨m, hm1, hm20, rfl⟩ := ft_w0 (a := 1) (b := 20) (by decide) (by decide) hp
    obtain ⟨c, hc1, rfl⟩ := ft_k0 (m := 1) (by decide) hk
    refine ⟨nI (if c = 0 then av_sm (lq_g S x2) m else av_sm (lq_z S x2) m), S, hw, fun σ hc => ?_, fun σ hm => ?_⟩
    · unfold f_X8_lots
      rw [pc_within, pc_known, pc_first (ft_w7 _ _ _), hj, lb_letS, lb_if0, lb_k0]
      obtain ⟨n, st, ⟨i0, i1, i2, i3, i4⟩, e⟩ := lb_loopR (fun n (st : Int32 × Int32 × Int32 × Int32 × lb_Mem) => f_X8_lots_41 n (nI m) (nI c) st.1 st.2.1 st.2.2.1 st.2.2.2.1 st.2.2.2.2) (fun i st => st.1 = lq_S S x2 i ∧ st.2.1 = nI (av_sm (lq_g S x2) i) ∧ st.2.2.1 = nI (av_sm (lq_z S x2) i) ∧ st.2.2.2.1 = nI i ∧ av_fr 17 σ st.2.2.2.2) m lb_N (by rw [lb_N300]; omega)
        (fun n i st hi hI => by
          obtain ⟨y1, y2, y3, y4, σ'⟩ := st
          obtain ⟨i0, i1, i2, i3, i4⟩ := hI
          dsimp only at i0 i1 i2 i3 i4 ⊢
          subst i0 i1 i2 i3
          obtain ⟨s1, e1, f1⟩ := pc_lotIn (hc.fr0 i4) hv (lq_S S x2 i) (fun (x1 : Int32) (x3 : Int32) (x5 : Int32) (x6 : Int32) (x7 : Int32) (x8 : Int32) (σ : lb_Mem) => f_X8_lots_41 n x1 x3 x5 x6 x7 x8 σ) (nI m) (nI c) (av_sm (lq_g S x2) i) (av_sm (lq_z S x2) i) i
          refine ⟨(_, _, _, _, _), ⟨rfl, rfl, rfl, rfl, i4.tr f1⟩, ?_⟩
          rw [f_X8_lots_41, if_neg (by rw [lb_le (by omega) (by omega)]; omega), e1]
          rfl) (x2, nI 0, nI 0, nI 0, σ) ⟨rfl, rfl, rfl, rfl, av_fr.rf _ _⟩
      obtain ⟨y1, y2, y3, y4, σ'⟩ := st
      dsimp only at i0 i1 i2 i3 i4 e
      subst i0 i1 i2 i3
      rw [e, f_X8_lots_41, if_pos (by rw [lb_le (by omega) (by omega)]; omega)]
      by_cases c0 : c = 0
      · subst c0; rw [if_pos (show nI 0 = 0 from rfl), if_pos rfl]; exact hc.fr i4
      · rw [if_neg (by rw [lb_k0, lb_eq (by omega) (by omega)]; exact c0), if_neg c0]; exact hc.fr i4
    · unfold f_X9_lots
      rw [if_pos (show (1 : Int32) ≤ nI m by rw [lb_k1, lb_le (by omega) (by omega)]; omega), if_pos (show nI m ≤ (20 : Int32) by rw [lb_k20, lb_le (by omega) (by omega)]; omega), pn_isIn0, lb_ifn ((ft_kl _ _).mp hk), lb_letS, lb_k0]
      have h0 : lq_I S σ x2 (lb_sto σ 53 12 x2) := ⟨hm.seed x2, lb_sto_s _ _ _ _, fun k hk => lb_sto_o (by omega)⟩
      obtain ⟨n, st, ⟨i1, i2, i3⟩, e⟩ := lb_loopR (fun n (st : Int32 × Int32 × lb_Mem) => f_X9_lots_52 n (nI m) (nI c) st.1 st.2.1 st.2.2) (fun i st => st.1 = nI (if c = 0 then av_sm (lq_g S x2) i else av_sm (lq_z S x2) i) ∧ st.2.1 = nI i ∧ lq_I S σ (lq_S S x2 i) st.2.2) m lb_N (by rw [lb_N300]; omega)
        (fun n i st hi hI => by
          obtain ⟨y1, y2, σ'⟩ := st
          obtain ⟨i1, i2, i3⟩ := hI
          dsimp only at i1 i2 i3 ⊢
          subst i1 i2
          obtain ⟨s1, e1, f1⟩ := pn_lotIn (lq_S S x2 i) i3 hv (fun (x1 : Int32) (x3 : Int32) (x4 : Int32) (x5 : Int32) (σ : lb_Mem) => f_X9_lots_52 n x1 x3 x4 x5 σ) (nI m) hc1 (if c = 0 then av_sm (lq_g S x2) i else av_sm (lq_z S x2) i) i
          refine ⟨(_, _, _), ⟨rfl, rfl, f1⟩, ?_⟩
          rw [f_X9_lots_52, if_neg (by rw [lb_le (by omega) (by omega)]; omega), e1]
          by_cases c0 : c = 0
          · rw [if_pos c0, if_pos c0, if_pos c0]; rfl
          · rw [if_neg c0, if_neg c0, if_neg c0]; rfl) (nI 0, nI 0, lb_sto σ 53 12 x2) ⟨by by_cases c0 : c = 0 <;> simp only [c0, if_true, if_false] <;> rfl, rfl, h0⟩
      obtain ⟨y1, y2, σ'⟩ := st
      dsimp only at i1 i2 i3 e
      subst i1 i2
      rw [e, f_X9_lots_52, if_pos (by rw [lb_le (by omega) (by omega)]; omega)]
      exact ⟨σ', rfl, i3.1, i3.2.2⟩
  · refine rs_rg hw hj (fun σ hc => ?_) (fun σ hm => ?_)
    · try dsimp only
      unfold f_X8_lots
      rw [pc_within, pc_known, pc_first (ft_w7 _ _ _), lb_letS]
      exact pc_else hc hj (ft_f7 (ft_w7 _ _ _) (ft_k7 _ _))
    · try dsimp only
      unfold f_X9_lots
      by_cases c1 : (1 : Int32) ≤ x1
      · rw [if_pos c1]
        by_cases c2 : x1 ≤ (20 : Int32)
        · have hw0 : ft_w x1 1 20 = 0 := by unfold ft_w; rw [if_neg (Int32.not_lt.mpr c1), if_neg (Int32.not_lt.mpr c2)]
          rw [ft_fz hw0] at hj ⊢
          rw [if_pos c2, pn_isIn0, lb_if1 (fun z => hj ((ft_kl _ _).mpr z)), ft_k2 hj]
          exact (pn_no2 hm).bid
        · have hw0 : ft_w x1 1 20 = 6 := by unfold ft_w; rw [if_neg (Int32.not_lt.mpr c1), if_pos (Int32.not_le.mp c2)]
          rw [hw0, ft_fn (by decide), if_neg c2]
          exact (pn_no6 hm).bid
      · have hw0 : ft_w x1 1 20 = 4 := by unfold ft_w; rw [if_pos (Int32.not_le.mp c1)]
        rw [hw0, ft_fn (by decide), if_neg c1]
        exact (pn_no4 hm).bid
