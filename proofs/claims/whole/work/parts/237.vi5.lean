/-! statements one after another -/
def vg_go (S : av_V) : Nat → Nat → av_V → Nat ⊕ av_V
  | 0, _, V => .inr V
  | n + 1, x, V => if x < S 9 1 then (match ob S x V with
    | none => .inl x
    | some V' => vg_go S n (x + vn (vl S x)) V') else .inr V
theorem vl_59 {S : av_V} {q : Nat} (h : vl S q = 59) : q < S 9 1 := by
  unfold vl at h
  split at h
  · assumption
  · cases h
theorem sf_lt {S : av_V} {x : Nat} {u : Unit} (h : sf S x = .inr u) : x + vn (vl S x) ≤ S 9 1 := by
  have h3 := vn3 (sf_0 h)
  have h4 := sf_r h (x + vn (vl S x) - 1) (by omega) (by omega)
  rw [vB_e (by omega)] at h4
  have h5 : vl S (x + vn (vl S x) - 1) = 59 := by simpa using h4
  have h6 := vl_59 h5
  omega
theorem frn_lt {P : Nat → Bool} : ∀ {n b q : Nat}, frn P b n = .inl q → q < b + n
  | 0, b, q, h => by rw [frn] at h; cases h
  | n + 1, b, q, h => by
    rw [frn] at h
    split at h
    · cases h; omega
    · have := frn_lt h; omega
theorem sf_q {S : av_V} {x q : Nat} (h : sf S x = .inl q) : q < x + 8 := by
  have h8 := vn8 (vl S x)
  unfold sf at h
  split at h
  · cases h; omega
  · have := frn_lt h; omega
theorem wp_lt {S : av_V} (h96 : S 9 1 ≤ 96) : ∀ n x q, x ≤ 96 → wp S n x = .inl q → q < 200
  | 0, x, q, _, h => by rw [wp] at h; cases h
  | n + 1, x, q, hx, h => by
    rw [wp] at h
    cases hs : sf S x with
    | inl r =>
      rw [hs, lb_sum_l] at h
      cases h
      have := sf_q hs
      omega
    | inr u =>
      rw [hs, lb_sum_r] at h
      by_cases c : x + vn (vl S x) < S 9 1
      · rw [if_pos c] at h
        cases hq : wp S n (x + vn (vl S x)) with
        | inl r =>
          rw [hq, lb_sum_l] at h
          cases h
          exact wp_lt h96 n _ _ (by omega) hq
        | inr k => rw [hq, lb_sum_r] at h; cases h
      · rw [if_neg c] at h; cases h
theorem wp_r {S : av_V} {n x k : Nat} (h : wp S (n + 1) x = .inr k) : sf S x = .inr () ∧ ((x + vn (vl S x) < S 9 1 ∧ ∃ k', k = k' + 1 ∧ wp S n (x + vn (vl S x)) = .inr k') ∨ (¬ x + vn (vl S x) < S 9 1 ∧ k = 1)) := by
  rw [wp] at h
  cases hs : sf S x with
  | inl r => rw [hs, lb_sum_l] at h; cases h
  | inr u =>
    rw [hs, lb_sum_r] at h
    refine ⟨rfl, ?_⟩
    by_cases c : x + vn (vl S x) < S 9 1
    · rw [if_pos c] at h
      cases hq : wp S n (x + vn (vl S x)) with
      | inl r => rw [hq, lb_sum_l] at h; cases h
      | inr k' =>
        rw [hq, lb_sum_r] at h
        cases h
        exact Or.inl ⟨c, k', rfl, rfl⟩
    · rw [if_neg c] at h
      cases h
      exact Or.inr ⟨c, rfl⟩
theorem wp_k {S : av_V} : ∀ {n x k : Nat}, wp S (n + 1) x = .inr k → 1 ≤ k ∧ k ≤ n + 1
  | 0, x, k, h => by
    obtain ⟨_, ⟨_, k', rfl, h'⟩ | ⟨_, rfl⟩⟩ := wp_r h
    · rw [wp] at h'; cases h'; omega
    · omega
  | n + 1, x, k, h => by
    obtain ⟨_, ⟨_, k', rfl, h'⟩ | ⟨_, rfl⟩⟩ := wp_r h
    · have := wp_k h'; omega
    · omega
theorem vg_W {S : av_V} : ∀ n x k V, wp S n x = .inr k → av_W V → V 8 2 ≤ 999 → (∀ V', vg_go S n x V = .inr V' → av_W V' ∧ V' 8 2 ≤ 999 ∧ ∀ b i, 9 ≤ b → V' b i = V b i) ∧ ∀ q, vg_go S n x V = .inl q → q < S 9 1
  | 0, x, k, V, _, hv, hy => ⟨fun V' e => by rw [vg_go] at e; cases e; exact ⟨hv, hy, fun _ _ _ => rfl⟩, fun q e => by rw [vg_go] at e; cases e⟩
  | n + 1, x, k, V, hp, hv, hy => by
    obtain ⟨hs, hk⟩ := wp_r hp
    have hv3 := vn3 (sf_0 hs)
    have hlt := sf_lt hs
    rw [vg_go, if_pos (show x < S 9 1 by omega)]
    cases ho : ob S x V with
    | none => exact ⟨fun V' e => (by cases e), fun q e => by cases e; omega⟩
    | some V1 =>
      obtain ⟨w1, w2, w3⟩ := ob_W hs hv hy ho
      dsimp only
      rcases hk with ⟨cl, k', rfl, hp'⟩ | ⟨cl, rfl⟩
      · obtain ⟨a, b⟩ := vg_W n (x + vn (vl S x)) k' V1 hp' w1 w2
        refine ⟨fun V' e => ?_, b⟩
        obtain ⟨a1, a2, a3⟩ := a V' e
        exact ⟨a1, a2, fun b i hb => (a3 b i hb).trans (w3 b i hb)⟩
      · have eg : vg_go S n (x + vn (vl S x)) V1 = .inr V1 := by
          cases n with
          | zero => rfl
          | succ n => rw [vg_go, if_neg cl]
        rw [eg]
        exact ⟨fun V' e => by cases e; exact ⟨w1, w2, w3⟩, fun q e => by cases e⟩
/-! the class, all of them -/
theorem lb_2000 : ∀ q, q < 200 → ((-2000 : Int32) - nI q) < 0 := by decide +kernel
theorem lb_1000 : ∀ q, q < 200 → ((-1000 : Int32) - nI q) < 0 := by decide +kernel
theorem lb_2000n : ∀ q, q < 200 → ¬ ((-2000 : Int32) - nI q) = -9 := by decide +kernel
theorem lb_1000n : ∀ q, q < 200 → ¬ ((-1000 : Int32) - nI q) = -9 := by decide +kernel
def vgI (k : Nat) : Nat ⊕ av_V → Int32
  | .inl q => (-2000 : Int32) - nI q
  | .inr _ => nI k
theorem pc_stop {σ : lb_Mem} (m : Nat) {y : Int32} (z : Int32) (hy : y < 0) : f_X8_village_35 (m + 1) y z σ = f_X8_village_95 y σ := by
  rw [f_X8_village_35]
  by_cases c : σ 49 1 ≤ z
  · rw [if_pos c]
  · rw [if_neg c, if_pos hy]
theorem pc_go {S : av_V} (hw : rs_W S) : ∀ n x k c V σ m, rs_C σ S → av_C 17 σ V → av_W V → V 8 2 ≤ 999 → x ≤ 96 → c + n ≤ 1000 → n < m → wp S n x = .inr k → (n = 0 → False) → S 9 1 + 3 ≤ x + 3 * n → ∃ σ', f_X8_village_35 m (nI c) (nI x) σ = f_X8_village_95 (vgI (c + k) (vg_go S n x V)) σ' ∧ av_fr 17 σ σ' ∧ ∀ V', vg_go S n x V = .inr V' → av_C 17 σ' V' := by
  intro n
  induction n with
  | zero => intro x k c V σ m _ _ _ _ _ _ _ _ h; exact (h rfl).elim
  | succ n ih =>
    intro x k c V σ m hc h hv hy hx hcn hm hp _ hsz
    have h96 := hw.2.2.2.2.2.1
    obtain ⟨m, rfl⟩ : ∃ m', m = m' + 1 := ⟨m - 1, by omega⟩
    obtain ⟨hs, hk⟩ := wp_r hp
    have hv3 := vn3 (sf_0 hs)
    have hv8 := vn8 (vl S x)
    have hlt := sf_lt hs
    obtain ⟨σ1, e1, f1, g1⟩ := pc_obey hc hw h hv hy (x := x) (by omega) hs
    have hc1 := hc.fr0 f1
    have ln : (if (1 : Int32) < nI (vn (vl S x)) then nI (vn (vl S x)) else (1 : Int32)) = nI (vn (vl S x)) := if_pos (by rw [lb_k1, lb_lt (by omega) (by omega)]; omega)
    rw [f_X8_village_35, hc.2.2.2.1, if_neg (by rw [lb_le (by omega) (by omega)]; omega), if_neg (nI_pos (by omega)), e1, lb_bndS, vg_go, if_pos (show x < S 9 1 by omega)]
    cases ho : ob S x V with
    | none =>
      dsimp only
      rw [show obI none = 0 from rfl, if_pos rfl, f_X8_village_76, pc_lengthAt hc1 hw (by omega), lb_bndS, lb_letS, ln]
      obtain ⟨m, rfl⟩ : ∃ m', m = m' + 1 := ⟨m - 1, by omega⟩
      rw [pc_stop m _ (lb_2000 x (by omega))]
      exact ⟨σ1, rfl, f1, fun V' e => by cases e⟩
    | some V1 =>
      obtain ⟨hv1, hy1, _⟩ := ob_W hs hv hy ho
      have h1 := g1 V1 ho
      dsimp only
      rw [show obI (some V1) = 1 from rfl, if_neg (show ¬ (1 : Int32) = 0 by decide), f_X8_village_76, pc_lengthAt hc1 hw (by omega), lb_bndS, lb_letS, ln, lb_ad1, show nI c + (1 : Int32) = nI (c + 1) from nI_1 _]
      rcases hk with ⟨cl, k', rfl, hp'⟩ | ⟨cl, rfl⟩
      · obtain ⟨σ2, e2, f2, g2⟩ := ih (x + vn (vl S x)) k' (c + 1) V1 σ1 m hc1 h1 hv1 hy1 (by omega) (by omega) (by omega) hp' (by omega) (by omega)
        rw [e2, show c + 1 + k' = c + (k' + 1) by omega]
        exact ⟨σ2, rfl, f1.tr f2, g2⟩
      · have eg : vg_go S n (x + vn (vl S x)) V1 = .inr V1 := by
          cases n with
          | zero => rfl
          | succ n => rw [vg_go, if_neg cl]
        obtain ⟨m, rfl⟩ : ∃ m', m = m' + 1 := ⟨m - 1, by omega⟩
        rw [eg, f_X8_village_35, hc1.2.2.2.1, if_pos (by rw [lb_le (by omega) (by omega)]; omega)]
        exact ⟨σ1, rfl, f1, fun V' e => by cases e; exact h1⟩
theorem rs_C.now {σ σ' : lb_Mem} {S S' : av_V} (h : rs_C σ S) (h1 : av_C 1 σ' S') (e : ∀ k, k < 1 ∨ 32 < k → σ' k = σ k) (f : ∀ b i, 9 ≤ b → S' b i = S b i) : rs_C σ' S' := by
  obtain ⟨_, h2, h3, h4, h5, h6, h7, h8⟩ := h
  have ek : rs_kv S' = rs_kv S := by funext b i; exact f _ _ (by omega)
  refine ⟨h1, by rw [ek]; exact h2.cong (fun k _ _ => e k (by omega)), ?_, ?_, ?_, fun i hi => ?_, fun i hi => ?_, fun i hi => ?_⟩
  · rw [e 0 (by decide), f 9 0 (by decide)]; exact h3
  · rw [e 49 (by decide), f 9 1 (by decide)]; exact h4
  · rw [e 0 (by decide), f 9 2 (by decide)]; exact h5
  · rw [e 50 (by decide), f 10 i (by decide)]; exact h6 i hi
  · rw [e 51 (by decide), f 11 i (by decide)]; exact h7 i hi
  · rw [e 52 (by decide), f 12 i (by decide)]; exact h8 i hi
theorem pc_vilE {σ : lb_Mem} {S : av_V} (hc : rs_C σ S) {y : Int32} (hy : y < 0) : rs_cl σ (f_X8_village_95 y σ) y (av_st S 9 1 0) := by
  have h0 : y ≤ 0 := Int32.le_of_lt hy
  rw [f_X8_village_95, if_pos h0, f_X8_village_110, lb_letS, lb_k0]
  exact ⟨_, rfl, hc.out (by omega), fun k hk => lb_sto_o (by omega)⟩
theorem rs_cl.fr {T : Type} {σ σ1 : lb_Mem} {S : av_V} {o : Option (T × lb_Mem)} {r : T} (h : rs_cl σ1 o r S) (e : av_fr 17 σ σ1) : rs_cl σ o r S := by
  obtain ⟨σ', a, b, c⟩ := h
  exact ⟨σ', a, b, fun k hk => (c k hk).trans (e k (by omega))⟩
theorem pc_vil {σ : lb_Mem} {S : av_V} (hc : rs_C σ S) (hw : rs_W S) : (∀ q, wp S 40 0 = .inl q → rs_cl σ (f_X8_village σ) ((-1000 : Int32) - nI q) (av_st S 9 1 0)) ∧ (∀ k q, wp S 40 0 = .inr k → vg_go S 40 0 S = .inl q → rs_cl σ (f_X8_village σ) ((-2000 : Int32) - nI q) (av_st S 9 1 0)) ∧ ∀ k V', wp S 40 0 = .inr k → vg_go S 40 0 S = .inr V' → rs_cl σ (f_X8_village σ) (nI k) (av_st V' 9 1 0) := by
  have h96 := hw.2.2.2.2.2.1
  have h0 := pc_wp hc hw 40 0 lb_N (by omega) (by omega) (by omega) (by rw [lb_N300]; omega)
  obtain ⟨σ1, b1, b2, b3⟩ := pc_mind hc
  have hc1 := hc.fr0 b3
  refine ⟨fun q hp => ?_, fun k q hp hg => ?_, fun k V' hp hg => ?_⟩
  · have hq := wp_lt h96 40 0 q (by omega) hp
    unfold f_X8_village f_X4_wrongPlace
    rw [lb_k0, h0, hp, lb_sum_l, lb_bndS, if_pos (show nI 0 ≤ nI q from nI_pos' (by omega)), f_X8_village_21, b1, lb_bndS, show lb_N = 299 + 1 from rfl, pc_stop 299 _ (lb_1000 q hq)]
    exact (pc_vilE hc1 (lb_1000 q hq)).fr b3
  · have hq := (vg_W 40 0 k S hp hw.1 hw.2.1).2 q hg
    obtain ⟨σ2, e2, f2, g2⟩ := pc_go hw 40 0 k 0 S σ1 lb_N hc1 b2 hw.1 hw.2.1 (by omega) (by omega) (by rw [lb_N300]; omega) hp (by omega) (by omega)
    unfold f_X8_village f_X4_wrongPlace
    rw [lb_k0, h0, hp, lb_sum_r, lb_bndS, if_neg (show ¬ nI 0 ≤ (-1 : Int32) by decide), f_X8_village_21, b1, lb_bndS, lb_k0, e2, hg]
    exact (pc_vilE (hc1.fr0 f2) (lb_2000 q (by omega))).fr (b3.tr f2)
  · obtain ⟨w1, w2, w3⟩ := (vg_W 40 0 k S hp hw.1 hw.2.1).1 V' hg
    obtain ⟨σ2, e2, f2, g2⟩ := pc_go hw 40 0 k 0 S σ1 lb_N hc1 b2 hw.1 hw.2.1 (by omega) (by omega) (by rw [lb_N300]; omega) hp (by omega) (by omega)
    obtain ⟨σ3, e3, f3, g3⟩ := pv_become (b0 := 1) (g2 V' hg) (by omega)
    have hk1 : 1 ≤ k ∧ k ≤ 40 := wp_k hp
    unfold f_X8_village f_X4_wrongPlace
    rw [lb_k0, h0, hp, lb_sum_r, lb_bndS, if_neg (show ¬ nI 0 ≤ (-1 : Int32) by decide), f_X8_village_21, b1, lb_bndS, lb_k0, e2, hg, show vgI (0 + k) (.inr V' : Nat ⊕ av_V) = nI (0 + k) from rfl, Nat.zero_add, f_X8_village_95, if_neg (by rw [lb_k0, lb_le (by omega) (by omega)]; omega), e3, lb_bndS, f_X8_village_110, lb_letS, lb_k0]
    have hc3 : rs_C σ3 V' := hc.now f3 (fun k hk => (g3 k (by omega)).trans ((f2 k (by omega)).trans (b3 k (by omega)))) w3
    exact ⟨_, rfl, hc3.out (by omega), fun k hk => (lb_sto_o (by omega)).trans ((g3 k (by omega)).trans ((f2 k (by omega)).trans (b3 k (by omega))))⟩
