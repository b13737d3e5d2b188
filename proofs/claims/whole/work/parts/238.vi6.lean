/-! the model, all of them -/
theorem pn_first {σ0 : lb_Mem} {S : av_V} (hL : vL σ0 S) (hw : rs_W S) : ∀ n x m c s, pl σ0 x s → x ≤ 96 → S 9 1 + 3 ≤ x + 3 * n → n ≤ m → (n = 0 → False) → ∃ c' y s', pl σ0 y s' ∧ f_X9_village_10 m (nI c) (-9 : Int32) s = f_X9_village_46 (nI c') (lb_sum (fun q => (-1000 : Int32) - nI q) (fun _ => (-9 : Int32)) (wp S n x)) s' ∧ ∀ k, wp S n x = .inr k → c' = c + k := by
  intro n
  induction n with
  | zero => intro x m c s _ _ _ _ h; exact (h rfl).elim
  | succ n ih =>
    intro x m c s hp hx hsz hm _
    have h96 := hw.2.2.2.2.2.1
    obtain ⟨m, rfl⟩ : ∃ m', m = m' + 1 := ⟨m - 1, by omega⟩
    have rd := pn_reads hL hw hp (show x < 800 by omega)
    rw [f_X9_village_10]
    cases hs : sf S x with
    | inl q =>
      have ew : wp S (n + 1) x = .inl q := by rw [wp, hs, lb_sum_l]
      have hq := sf_q hs
      rw [hs] at rd
      obtain ⟨s1, e1, p1⟩ := rd
      rw [e1, lb_bndS]
      dsimp only
      rw [if_pos rfl, lb_letS, p1.2.2, f_X9_village_26, if_neg (lb_1000n q (by omega)), ew, lb_sum_l, show nI c + (1 : Int32) = nI (c + 1) from nI_1 _]
      exact ⟨c + 1, q, s1, p1, rfl, fun k hk => by cases hk⟩
    | inr u =>
      have hv3 := vn3 (sf_0 hs)
      have hv8 := vn8 (vl S x)
      rw [hs] at rd
      obtain ⟨s1, e1, p1, _⟩ := rd
      rw [e1, lb_bndS]
      dsimp only
      rw [if_neg (show ¬ (1 : Int32) = 0 by decide), f_X9_village_26, if_pos rfl, p1.2.2, p1.2.1 8 (by decide), hL.1, show nI c + (1 : Int32) = nI (c + 1) from nI_1 _]
      by_cases cl : x + vn (vl S x) < S 9 1
      · rw [if_pos (show nI (x + vn (vl S x)) < nI (S 9 1) by rw [lb_lt (by omega) (by omega)]; exact cl)]
        obtain ⟨c', y, s', p', e', g'⟩ := ih (x + vn (vl S x)) m (c + 1) s1 p1 (by omega) (by omega) (by omega) (by omega)
        have ew : wp S (n + 1) x = lb_sum .inl (fun k => .inr (k + 1)) (wp S n (x + vn (vl S x))) := by rw [wp, hs, lb_sum_r, if_pos cl]
        rw [ew]
        refine ⟨c', y, s', p', ?_, fun k hk => ?_⟩
        · rw [e']
          cases wp S n (x + vn (vl S x)) with
          | inl q => rfl
          | inr k => rfl
        · cases hq : wp S n (x + vn (vl S x)) with
          | inl q => rw [hq, lb_sum_l] at hk; cases hk
          | inr k2 =>
            rw [hq, lb_sum_r] at hk
            cases hk
            have := g' k2 hq
            omega
      · rw [if_neg (show ¬ nI (x + vn (vl S x)) < nI (S 9 1) by rw [lb_lt (by omega) (by omega)]; exact cl)]
        have ew : wp S (n + 1) x = .inr 1 := by rw [wp, hs, lb_sum_r, if_neg cl]
        rw [ew, lb_sum_r]
        exact ⟨c + 1, _, s1, p1, rfl, fun k hk => by cases hk; rfl⟩
theorem pn_stop {s : lb_Mem} (m : Nat) (c : Int32) {y : Int32} (hy : ¬ y = -9) : f_X9_village_62 (m + 1) c y s = f_X9_village_128 c y s := by
  rw [f_X9_village_62, if_neg hy]
theorem hr_sf {S : av_V} {x : Nat} {u : Unit} (hw : rs_W S) (h : sf S x = .inr u) : hr S x = nI (vl S x) := by
  rcases hr_c hw (x := x) with ⟨a, _⟩ | ⟨_, b⟩
  · exact a
  · exact absurd (show vn (vl S x) = 0 by rw [b]; rfl) (sf_0 h)
def vmv (s s' : lb_Mem) : Prop := (∀ k, k ≠ 61 → k ≠ 53 → k ≠ 54 → s' k = s k) ∧ ∀ i, i ≠ 10 → s' 53 i = s 53 i
theorem vmv.tr {s s1 s2 : lb_Mem} (h1 : vmv s s1) (h2 : vmv s1 s2) : vmv s s2 := ⟨fun k a b c => (h2.1 k a b c).trans (h1.1 k a b c), fun i hi => (h2.2 i hi).trans (h1.2 i hi)⟩
theorem pl.vmv {s s' : lb_Mem} {x : Nat} (h : pl s x s') : vmv s s' := ⟨fun k a b _ => h.1 k a b, h.2.1⟩
theorem av_fk.vmv {s s' : lb_Mem} (h : av_fk 54 s s') : vmv s s' := ⟨fun k _ _ c => h k c, fun i _ => by rw [h 53 (by decide)]⟩
theorem vL.vmv {s s' : lb_Mem} {S : av_V} (h : vL s S) (e : vmv s s') : vL s' S := ⟨(e.2 8 (by decide)).trans h.1, fun i hi => by rw [e.1 58 (by decide) (by decide) (by decide)]; exact h.2 i hi⟩
theorem pn_go {S : av_V} (hw : rs_W S) : ∀ n x k c V s m, vL s S → s 53 10 = nI x → av_M 54 s V → av_M 57 s S → av_W V → V 8 2 ≤ 999 → x ≤ 96 → n < m → wp S n x = .inr k → (n = 0 → False) → S 9 1 + 3 ≤ x + 3 * n → ∃ s', f_X9_village_62 m c (-9 : Int32) s = f_X9_village_128 c (lb_sum (fun q => (-2000 : Int32) - nI q) (fun _ => (-9 : Int32)) (vg_go S n x V)) s' ∧ vmv s s' ∧ (∀ V', vg_go S n x V = .inr V' → av_M 54 s' V') ∧ ∀ q, vg_go S n x V = .inl q → av_M 54 s' S := by
  intro n
  induction n with
  | zero => intro x k c V s m _ _ _ _ _ _ _ _ _ h; exact (h rfl).elim
  | succ n ih =>
    intro x k c V s m hL hx0 h h57 hv hy hx hm hp _ hsz
    have h96 := hw.2.2.2.2.2.1
    obtain ⟨m, rfl⟩ : ∃ m', m = m' + 1 := ⟨m - 1, by omega⟩
    obtain ⟨hs, hk⟩ := wp_r hp
    have hv3 := vn3 (sf_0 hs)
    have hv8 := vn8 (vl S x)
    have hlt := sf_lt hs
    have p0 : pl s x s := ⟨fun _ _ _ => rfl, fun _ _ => rfl, hx0⟩
    have rd := pn_reads hL hw p0 (show x < 800 by omega)
    rw [hs] at rd
    obtain ⟨s1, e1, p1, n1⟩ := rd
    have h1 : av_M 54 s1 V := h.cong (p1.1 54 (by decide) (by decide))
    obtain ⟨s2, e2, f2, g2⟩ := pn_done h1 hv hy hw hs n1
    have m2 : vmv s s2 := (pl.vmv p1).tr (av_fk.vmv f2)
    have x2 : s2 53 10 = nI (x + vn (vl S x)) := by rw [f2 53 (by decide)]; exact p1.2.2
    have h572 : av_M 57 s2 S := h57.cong (m2.1 57 (by decide) (by decide) (by decide))
    rw [f_X9_village_62, if_pos rfl, hL.1, hx0, if_neg (by rw [lb_le (by omega) (by omega)]; omega), lb_letS, pn_here hL hw p0 (by omega), lb_bndS, hr_sf hw hs, e1, lb_bndS]
    dsimp only
    rw [e2, lb_bndS, vg_go, if_pos (show x < S 9 1 by omega)]
    cases ho : ob S x V with
    | none =>
      obtain ⟨s3, e3, c3, f3⟩ := pm_copies (k0 := 57) (k1 := 54) (by decide) s2
      dsimp only
      rw [show obI none = 0 from rfl, if_pos rfl, lb_letS, e3, lb_bndS]
      obtain ⟨m, rfl⟩ : ∃ m', m = m' + 1 := ⟨m - 1, by omega⟩
      rw [pn_stop m c (lb_2000n x (by omega)), lb_sum_l]
      exact ⟨s3, rfl, m2.tr (av_fk.vmv f3), fun V' e => (by cases e), fun q _ => h572.copied c3⟩
    | some V1 =>
      obtain ⟨hv1, hy1, _⟩ := ob_W hs hv hy ho
      have h2 := g2 V1 ho
      dsimp only
      rw [show obI (some V1) = 1 from rfl, if_neg (show ¬ (1 : Int32) = 0 by decide)]
      rcases hk with ⟨cl, k', rfl, hp'⟩ | ⟨cl, rfl⟩
      · obtain ⟨s3, e3, f3, g3, i3⟩ := ih (x + vn (vl S x)) k' c V1 s2 m (hL.vmv m2) x2 h2 h572 hv1 hy1 (by omega) (by omega) hp' (by omega) (by omega)
        rw [e3]
        exact ⟨s3, rfl, m2.tr f3, g3, i3⟩
      · have eg : vg_go S n (x + vn (vl S x)) V1 = .inr V1 := by
          cases n with
          | zero => rfl
          | succ n => rw [vg_go, if_neg cl]
        obtain ⟨m, rfl⟩ : ∃ m', m = m' + 1 := ⟨m - 1, by omega⟩
        rw [eg, f_X9_village_62, if_pos rfl, (hL.vmv m2).1, x2, if_pos (by rw [lb_le (by omega) (by omega)]; omega), lb_sum_r]
        exact ⟨s2, rfl, m2, fun V' e => by cases e; exact h2, fun q e => by cases e⟩
theorem rs_M.now {σ σ' : lb_Mem} {S S' : av_V} (h : rs_M σ S) (h1 : av_M 54 σ' S') (e : ∀ k, 53 < k → k ≠ 54 → k ≠ 57 → k ≠ 61 → σ' k = σ k) (e3 : ∀ i, i ≠ 10 → σ' 53 i = σ 53 i) (f : ∀ b i, 9 ≤ b → S' b i = S b i) : rs_M σ' S' := by
  obtain ⟨_, h2, h3, h4, h5, h6, h7, h8⟩ := h
  have ek : rs_kv S' = rs_kv S := by funext b i; exact f _ _ (by omega)
  refine ⟨h1, by rw [ek]; exact h2.cong (e 56 (by decide) (by decide) (by decide) (by decide)), ?_, ?_, ?_, fun i hi => ?_, fun i hi => ?_, fun i hi => ?_⟩
  · rw [e3 4 (by decide), f 9 0 (by decide)]; exact h3
  · rw [e3 8 (by decide), f 9 1 (by decide)]; exact h4
  · rw [e3 9 (by decide), f 9 2 (by decide)]; exact h5
  · rw [e 58 (by decide) (by decide) (by decide) (by decide), f 10 i (by decide)]; exact h6 i hi
  · rw [e 59 (by decide) (by decide) (by decide) (by decide), f 11 i (by decide)]; exact h7 i hi
  · rw [e 60 (by decide) (by decide) (by decide) (by decide), f 12 i (by decide)]; exact h8 i hi
theorem pn_vil {σ : lb_Mem} {S : av_V} (hm : rs_M σ S) (hw : rs_W S) : (∀ q, wp S 40 0 = .inl q → rs_mo σ (f_X9_village σ) ((-1000 : Int32) - nI q) (av_st S 9 1 0)) ∧ (∀ k q, wp S 40 0 = .inr k → vg_go S 40 0 S = .inl q → rs_mo σ (f_X9_village σ) ((-2000 : Int32) - nI q) (av_st S 9 1 0)) ∧ ∀ k V', wp S 40 0 = .inr k → vg_go S 40 0 S = .inr V' → rs_mo σ (f_X9_village σ) (nI k) (av_st V' 9 1 0) := by
  have h96 := hw.2.2.2.2.2.1
  have hL : vL σ S := ⟨hm.2.2.2.1, hm.2.2.2.2.2.1⟩
  have p0 : pl σ 0 (lb_sto σ 53 10 (nI 0)) := ⟨fun k _ h2 => lb_sto_o h2, fun i hi => lb_sto_i hi, lb_sto_s _ _ _ _⟩
  obtain ⟨c', y, s1, p1, e1, g1⟩ := pn_first hL hw 40 0 lb_N 0 _ p0 (by omega) (by omega) (by rw [lb_N300]; omega) (by omega)
  obtain ⟨s2, e2, c2, f2⟩ := pm_copies (k0 := 54) (k1 := 57) (by decide) s1
  have ev : f_X9_village σ = f_X9_village_62 lb_N (nI c') (lb_sum (fun q => (-1000 : Int32) - nI q) (fun _ => (-9 : Int32)) (wp S 40 0)) (lb_sto s2 53 10 (nI 0)) := by
    unfold f_X9_village
    rw [lb_letS, lb_k0, e1, f_X9_village_46, e2, lb_bndS, lb_letS, lb_k0]
  obtain ⟨s3, hs3⟩ : ∃ s3, s3 = lb_sto s2 53 10 (nI 0) := ⟨_, rfl⟩
  rw [← hs3] at ev
  have k3 : ∀ k, k ≠ 61 → k ≠ 53 → k ≠ 57 → s3 k = σ k := fun k a b c => by rw [hs3, lb_sto_o b, f2 k c]; exact p1.1 k a b
  have i3 : ∀ i, i ≠ 10 → s3 53 i = σ 53 i := fun i hi => by rw [hs3, lb_sto_i hi, f2 53 (by decide)]; exact p1.2.1 i hi
  have x3 : s3 53 10 = nI 0 := by rw [hs3]; exact lb_sto_s _ _ _ _
  have h54 : av_M 54 s3 S := hm.1.cong (k3 54 (by decide) (by decide) (by decide))
  have h57 : av_M 57 s3 S := by
    have a1 : av_M 54 s1 S := hm.1.cong (p1.1 54 (by decide) (by decide))
    refine (a1.copied c2).cong ?_
    rw [hs3, lb_sto_o (by decide)]
  have hL3 : vL s3 S := ⟨(i3 8 (by decide)).trans hL.1, fun i hi => by rw [k3 58 (by decide) (by decide) (by decide)]; exact hL.2 i hi⟩
  have fin : ∀ (s4 : lb_Mem) (S' : av_V) (r : Int32), rs_M s4 S' → (∀ k, k < 53 → s4 k = σ k) → rs_mo σ (some (r, lb_sto s4 53 8 (nI 0))) r (av_st S' 9 1 0) := fun s4 S' r h1 h2 => ⟨_, rfl, h1.out (by omega), fun k hk => (lb_sto_o (by omega)).trans (h2 k hk)⟩
  have m3 : rs_M s3 S := hm.now h54 (fun k a _ c d => k3 k d (by omega) c) i3 (fun _ _ _ => rfl)
  have go := fun (k : Nat) (hp : wp S 40 0 = .inr k) => pn_go hw 40 0 k (nI c') S s3 lb_N hL3 x3 h54 h57 hw.1 hw.2.1 (by omega) (by rw [lb_N300]; omega) hp (by omega) (by omega)
  refine ⟨fun q hp => ?_, fun k q hp hg => ?_, fun k V' hp hg => ?_⟩
  · have hq := wp_lt h96 40 0 q (by omega) hp
    rw [ev, hp, lb_sum_l, show lb_N = 299 + 1 from rfl, pn_stop 299 _ (lb_1000n q hq), f_X9_village_128, lb_letS, if_neg (lb_1000n q hq), lb_k0]
    exact fin s3 S _ m3 (fun k hk => k3 k (by omega) (by omega) (by omega))
  · have hq := (vg_W 40 0 k S hp hw.1 hw.2.1).2 q hg
    obtain ⟨s4, e4, f4, g4, i4⟩ := go k hp
    have m4 : rs_M s4 S := hm.now (i4 q hg) (fun k a b c d => (f4.1 k d (by omega) b).trans (k3 k d (by omega) c)) (fun i hi => (f4.2 i hi).trans (i3 i hi)) (fun _ _ _ => rfl)
    rw [ev, hp, lb_sum_r, e4, hg, lb_sum_l, f_X9_village_128, lb_letS, if_neg (lb_2000n q (by omega)), lb_k0]
    exact fin s4 S _ m4 (fun k hk => (f4.1 k (by omega) (by omega) (by omega)).trans (k3 k (by omega) (by omega) (by omega)))
  · obtain ⟨w1, w2, w3⟩ := (vg_W 40 0 k S hp hw.1 hw.2.1).1 V' hg
    obtain ⟨s4, e4, f4, g4, i4⟩ := go k hp
    have m4 : rs_M s4 V' := hm.now (g4 V' hg) (fun k a b c d => (f4.1 k d (by omega) b).trans (k3 k d (by omega) c)) (fun i hi => (f4.2 i hi).trans (i3 i hi)) w3
    have ec : c' = k := by have := g1 k hp; omega
    rw [ev, hp, lb_sum_r, e4, hg, lb_sum_r, f_X9_village_128, lb_letS, if_pos rfl, lb_k0, ec]
    exact fin s4 V' _ m4 (fun k hk => (f4.1 k (by omega) (by omega) (by omega)).trans (k3 k (by omega) (by omega) (by omega)))
theorem st_village : lb_st_village rs_R := by
  intro σ h
  refine rs_go (f8 := fun σ => f_X8_village σ) (f9 := fun σ => f_X9_village σ) h (fun S hw => ?_)
  cases hp : wp S 40 0 with
  | inl q => exact ⟨(-1000 : Int32) - nI q, av_st S 9 1 0, hw.out (by omega), fun σ hc => (pc_vil hc hw).1 q hp, fun σ hm => (pn_vil hm hw).1 q hp⟩
  | inr k =>
    cases hg : vg_go S 40 0 S with
    | inl q => exact ⟨(-2000 : Int32) - nI q, av_st S 9 1 0, hw.out (by omega), fun σ hc => (pc_vil hc hw).2.1 k q hp hg, fun σ hm => (pn_vil hm hw).2.1 k q hp hg⟩
    | inr V' =>
      obtain ⟨w1, w2, w3⟩ := (vg_W 40 0 k S hp hw.1 hw.2.1).1 V' hg
      exact ⟨nI k, av_st V' 9 1 0, (hw.vil w1 w2 w3).out (by omega), fun σ hc => (pc_vil hc hw).2.2 k V' hp hg, fun σ hm => (pn_vil hm hw).2.2 k V' hp hg⟩
