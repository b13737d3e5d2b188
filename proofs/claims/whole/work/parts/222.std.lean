theorem av_fi_t {P : Nat → Bool} : ∀ {n t : Nat}, av_fi P n = .inl t → t < n ∧ P t = true ∧ ∀ j, j < t → P j = false
  | 0, t, h => by cases h
  | n + 1, t, h => by
    cases ho : av_fi P n with
    | inl u =>
      rw [av_fi_l ho] at h
      obtain ⟨a, b, c⟩ := av_fi_t ho
      cases h
      exact ⟨by omega, b, c⟩
    | inr u =>
      rw [av_fi_r ho] at h
      split at h
      · rename_i c
        cases h
        exact ⟨by omega, c, fun j hj => av_fi_n' ho j hj⟩
      · cases h
where av_fi_n' {P : Nat → Bool} : ∀ {n : Nat} {u : Unit}, av_fi P n = .inr u → ∀ j, j < n → P j = false
  | 0, _, _, j, hj => absurd hj (by omega)
  | n + 1, u, h, j, hj => by
    cases ho : av_fi P n with
    | inl v => rw [av_fi_l ho] at h; cases h
    | inr v =>
      rw [av_fi_r ho] at h
      split at h
      · cases h
      · rename_i c
        by_cases e : j = n
        · subst e; simpa using c
        · exact av_fi_n' ho j (by omega)
theorem av_fi_n {P : Nat → Bool} {n : Nat} {u : Unit} (h : av_fi P n = .inr u) : ∀ j, j < n → P j = false := av_fi_t.av_fi_n' h
theorem lb_loopF {S R : Type} (L : Nat → S → R) (I : Nat → S → Prop) (P : Nat → Bool) (N M : Nat) (hM : N < M) (hs : ∀ n i s, i < N → I i s → P i = false → ∃ s', I (i + 1) s' ∧ L (n + 1) s = L n s') (s0 : S) (h0 : I 0 s0) : (∃ t, av_fi P N = .inl t ∧ t < N ∧ P t = true ∧ ∃ n s, I t s ∧ L M s0 = L (n + 1) s) ∨ (av_fi P N = .inr () ∧ ∃ n s, I N s ∧ L M s0 = L (n + 1) s) := by
  cases ho : av_fi P N with
  | inl t =>
    obtain ⟨a, b, c⟩ := av_fi_t ho
    left
    exact ⟨t, rfl, a, b, lb_loopR L I t M (by omega) (fun n i s hi h => hs n i s (by omega) h (c i hi)) s0 h0⟩
  | inr u =>
    right
    exact ⟨rfl, lb_loopR L I N M hM (fun n i s hi h => hs n i s hi h (av_fi_n ho i hi)) s0 h0⟩
def av_zr (w : Nat → Nat) (y : Nat) : Bool := decide (w y = 0)
theorem av_zr_f {w : Nat → Nat} {y : Nat} (h : av_zr w y = false) : ¬ w y = 0 := of_decide_eq_false h
theorem av_zr_t {w : Nat → Nat} {y : Nat} (h : av_zr w y = true) : w y = 0 := of_decide_eq_true h
theorem pn_whenGone {σ : lb_Mem} {S : av_V} (hm : rs_M σ S) (hv : av_W S) {c : Nat} (hc : c < 61) (w : Nat → Nat) (hw : ∀ y σ', av_M 55 σ' (av_ys S y) → σ' 55 c = nI (w y)) (hb : ∀ y, w y ≤ 99) : ∃ σ1, f_X9_whenGone (nI c) σ = some (lb_sum nI (fun _ => (-9 : Int32)) (av_fi (av_zr w) 61), σ1) ∧ av_fk 55 σ σ1 := by
  obtain ⟨s1, e1, h1, f1⟩ := pn_copy hm
  unfold f_X9_whenGone
  rw [e1, lb_bndS, lb_k0]
  rcases lb_loopF (fun n (s : Int32 × lb_Mem) => f_X9_whenGone_13 n (nI c) s.1 s.2) (fun i s => s.1 = nI i ∧ av_M 55 s.2 (av_ys S i) ∧ av_fk 55 σ s.2) (av_zr w) 61 lb_N (by decide)
    (fun n i s hi hI hP => by
      obtain ⟨x, σ'⟩ := s
      obtain ⟨i1, i2, i3⟩ := hI
      dsimp only at i1 i2 i3 ⊢
      subst i1
      obtain ⟨s2, e2, h2, f2⟩ := pm_year i2 (hv.ys i)
      have hbi := hb i
      refine ⟨(nI (i + 1), s2), ⟨rfl, h2, i3.tr f2⟩, ?_⟩
      rw [f_X9_whenGone_13, if_neg (by rw [lb_k60, lb_lt (by omega) (by omega)]; omega), lb_ixN hc (by decide), lb_chkT, lb_cl (by omega), hw i σ' i2, if_neg (by rw [lb_k0, lb_eq (by omega) (by omega)]; exact av_zr_f hP), e2, lb_bndS, show nI i + 1 = nI (i + 1) from nI_1 _]) (nI 0, s1) ⟨rfl, h1, f1⟩ with ⟨t, e0, ht, hP, n, s, ⟨i1, i2, i3⟩, e⟩ | ⟨e0, n, s, ⟨i1, i2, i3⟩, e⟩
  · obtain ⟨x, σ'⟩ := s
    dsimp only at i1 i2 i3 e
    subst i1
    refine ⟨σ', ?_, i3⟩
    rw [e0, lb_sum_l, e, f_X9_whenGone_13, if_neg (by rw [lb_k60, lb_lt (by omega) (by omega)]; omega), lb_ixN hc (by decide), lb_chkT, lb_cl (by omega), hw t σ' i2, if_pos (by rw [av_zr_t hP]; rfl)]
  · obtain ⟨x, σ'⟩ := s
    dsimp only at i1 i2 i3 e
    subst i1
    refine ⟨σ', ?_, i3⟩
    rw [e0, lb_sum_r, e, f_X9_whenGone_13, if_pos (by decide)]
theorem pc_year1 {s : lb_Mem} {S : av_V} {p i : Nat} (h : av_C 17 s (av_p S p i)) (hv : av_W S) (hp : p < 5) : ∃ σ1, f_X7_passFor 17 (nI p) (1 : Int32) s = some σ1 ∧ av_C 17 σ1 (av_p S p (i + 1)) ∧ av_fr 17 s σ1 := pv_passFor h (hv.p p i) hp (show 1 ≤ 60 by decide)
theorem st_empties : lb_st_empties rs_R := by
  intro σ x1 h
  refine rs_go (f8 := fun σ => f_X8_empties x1 σ) (f9 := fun σ => f_X9_empties x1 σ) h (fun S hw => ?_)
  have hv := hw.1
  have hn := hv.1
  have hn1 := hv.2.1
  by_cases hj : ft_p S x1 = 0
  · obtain ⟨t, ht, rfl⟩ := ft_p0 hv hj
    have h8 : t < 8 := by omega
    have ho1 : S 5 t < S 8 1 := hv.2.2.2.1 t ht
    have ho5 : S 5 t < 5 := by omega
    refine ⟨lb_sum nI (fun _ => (-9 : Int32)) (av_fi (av_zr (fun y => av_p S (S 5 t) y 4 t)) 61), S, hw, fun σ hc => ?_, fun σ hm => ?_⟩
    · unfold f_X8_empties
      obtain ⟨s1, e1, h1, f1⟩ := pc_mind hc
      rw [pc_potThere hc, hj, lb_letS, lb_if0, e1, lb_bndS, lb_k0]
      rcases lb_loopF (fun n (s : Int32 × lb_Mem) => f_X8_empties_29 n (nI t) s.1 s.2) (fun i s => s.1 = nI i ∧ av_C 17 s.2 (av_p S (S 5 t) i) ∧ av_fr 17 σ s.2) (av_zr (fun y => av_p S (S 5 t) y 4 t)) 61 lb_N (by decide)
        (fun n i s hi hI hP => by
          obtain ⟨x, σ'⟩ := s
          obtain ⟨i1, i2, i3⟩ := hI
          dsimp only at i1 i2 i3 ⊢
          subst i1
          obtain ⟨s2, e2, h2, f2⟩ := pc_year1 i2 hv ho5
          have hbi := (hv.p (S 5 t) i).2.2.1 t h8
          refine ⟨(nI (i + 1), s2), ⟨rfl, h2, i3.tr f2⟩, ?_⟩
          rw [f_X8_empties_29, if_neg (by rw [lb_k60, lb_lt (by omega) (by omega)]; omega), lb_ixN h8 (by decide), lb_chkT, lb_chkT, lb_cl (by omega), show σ' 29 t = nI (av_p S (S 5 t) i 4 t) from i2.r4 t h8, if_neg (by rw [lb_k0, lb_eq (by omega) (by omega)]; exact av_zr_f hP), show σ' 30 t = nI (av_p S (S 5 t) i 5 t) from i2.r5 t h8, av_p_st _ _ _ _ (by decide) (by decide), e2, lb_bndS, show nI i + 1 = nI (i + 1) from nI_1 _]) (nI 0, s1) ⟨rfl, h1, f1⟩ with ⟨y, e0, hy, hP, n, s, ⟨i1, i2, i3⟩, e⟩ | ⟨e0, n, s, ⟨i1, i2, i3⟩, e⟩
      · obtain ⟨x, σ'⟩ := s
        dsimp only at i1 i2 i3 e
        subst i1
        rw [e0, lb_sum_l, e, f_X8_empties_29, if_neg (by rw [lb_k60, lb_lt (by omega) (by omega)]; omega), lb_ixN h8 (by decide), lb_chkT, lb_cl (by omega), show σ' 29 t = nI (av_p S (S 5 t) y 4 t) from i2.r4 t h8, if_pos (show nI (av_p S (S 5 t) y 4 t) = 0 by rw [show av_p S (S 5 t) y 4 t = 0 from av_zr_t hP]; rfl)]
        exact hc.fr i3
      · obtain ⟨x, σ'⟩ := s
        dsimp only at i1 i2 i3 e
        subst i1
        rw [e0, lb_sum_r, e, f_X8_empties_29, if_pos (by decide)]
        exact hc.fr i3
    · unfold f_X9_empties
      obtain ⟨s1, e1, f1⟩ := pn_whenGone hm hv (show 3 + 6 * t + 4 < 61 by omega) (fun y => av_p S (S 5 t) y 4 t) (fun y σ' h' => by
        rw [h'.t4 t h8, (av_ys_al ho1 y).2.2.2.2 t (by rw [av_ys_st _ _ _ (by decide) (by decide) (by decide)])]) (fun y => by have := (hv.p (S 5 t) y).2.2.1 t h8; show av_p S (S 5 t) y 4 t ≤ 99; omega)
      rw [pn_isPot hm hv, lb_ifn hj, show f_X9_ofT (nI t) (4 : Int32) = nI (3 + 6 * t + 4) from pm_oT t 4, e1, lb_bndS]
      exact hm.fk f1
  · refine rs_rg hw hj (fun σ hc => ?_) (fun σ hm => ?_)
    · try dsimp only
      unfold f_X8_empties
      rw [pc_potThere hc, lb_letS]
      exact pc_else hc hj (ft_p7 _ _)
    · try dsimp only
      unfold f_X9_empties
      rw [pn_isPot hm hv, lb_if1 hj, ft_p1 hj]
      exact (pn_no1 hm).bid
/-! whose grace is gone first -/
def gl_w (S : av_V) (p y : Nat) : Nat := av_ys S y 7 p
def gl_y (S : av_V) (p : Nat) : Nat ⊕ Unit := av_fi (av_zr (gl_w S p)) 61
def gl_p (S : av_V) (y : Nat) : Nat ⊕ Unit := av_fi (av_zr (fun p => gl_w S p y)) (S 8 1)
def gl_o (S : av_V) (y : Nat) : Bool := lb_sum (fun _ => true) (fun _ => false) (gl_p S y)
def gl_c (S : av_V) : Int32 := lb_sum (fun y => lb_sum nI (fun _ => (-9 : Int32)) (gl_p S y)) (fun _ => (-9 : Int32)) (av_fi (gl_o S) 61)
def gl_m (S : av_V) : Nat → Option (Nat × Nat)
  | 0 => none
  | n + 1 => lb_sum (fun y => match gl_m S n with
    | none => some (n, y)
    | some a => if y < a.2 then some (n, y) else some a) (fun _ => gl_m S n) (gl_y S n)
theorem gl_y61 {S : av_V} {p y : Nat} (h : gl_y S p = .inl y) : y < 61 := (av_fi_t h).1
theorem gl_m_n {S : av_V} : ∀ {n : Nat}, gl_m S n = none → ∀ j, j < n → gl_y S j = .inr ()
  | 0, _, j, hj => absurd hj (by omega)
  | n + 1, h, j, hj => by
    rw [gl_m] at h
    cases hy : gl_y S n with
    | inl y =>
      rw [hy, lb_sum_l] at h
      cases hm : gl_m S n with
      | none => rw [hm] at h; cases h
      | some a => rw [hm] at h; dsimp only at h; split at h <;> cases h
    | inr u =>
      rw [hy, lb_sum_r] at h
      by_cases e : j = n
      · subst e; exact hy
      · exact gl_m_n h j (by omega)
theorem gl_m_s {S : av_V} : ∀ {n : Nat} {a : Nat × Nat}, gl_m S n = some a → a.1 < n ∧ gl_y S a.1 = .inl a.2 ∧ ∀ j y, j < n → gl_y S j = .inl y → a.2 ≤ y ∧ (y = a.2 → a.1 ≤ j)
  | 0, a, h => by cases h
  | n + 1, a, h => by
    rw [gl_m] at h
    cases hy : gl_y S n with
    | inl y =>
      rw [hy, lb_sum_l] at h
      cases hm : gl_m S n with
      | none =>
        rw [hm] at h
        cases h
        refine ⟨by dsimp only; omega, hy, fun j y' hj hy' => ?_⟩
        by_cases e : j = n
        · subst e; rw [hy] at hy'; cases hy'; exact ⟨Nat.le_refl _, fun _ => Nat.le_refl _⟩
        · rw [gl_m_n hm j (by omega)] at hy'; cases hy'
      | some b =>
        rw [hm] at h
        obtain ⟨b1, b2, b3⟩ := gl_m_s hm
        dsimp only at h
        split at h
        · rename_i c
          cases h
          refine ⟨by dsimp only; omega, hy, fun j y' hj hy' => ?_⟩
          by_cases e : j = n
          · subst e; rw [hy] at hy'; cases hy'; exact ⟨Nat.le_refl _, fun _ => Nat.le_refl _⟩
          · have := (b3 j y' (by omega) hy').1; dsimp only; omega
        · rename_i c
          cases h
          refine ⟨by omega, b2, fun j y' hj hy' => ?_⟩
          by_cases e : j = n
          · subst e; rw [hy] at hy'; cases hy'; exact ⟨by omega, fun _ => by omega⟩
          · exact b3 j y' (by omega) hy'
    | inr u =>
      rw [hy, lb_sum_r] at h
      obtain ⟨b1, b2, b3⟩ := gl_m_s h
      refine ⟨by omega, b2, fun j y' hj hy' => ?_⟩
      by_cases e : j = n
      · subst e; rw [hy] at hy'; cases hy'
      · exact b3 j y' (by omega) hy'
def gl_e : Option (Nat × Nat) → Int32
  | none => -9
  | some a => nI a.1
theorem gl_cm (S : av_V) : gl_c S = gl_e (gl_m S (S 8 1)) := by
  unfold gl_c
  cases hm : gl_m S (S 8 1) with
  | none =>
    cases ho : av_fi (gl_o S) 61 with
    | inr u => rfl
    | inl y =>
      exfalso
      obtain ⟨y61, h1, _⟩ := av_fi_t ho
      unfold gl_o at h1
      cases hp : gl_p S y with
      | inr u => rw [hp] at h1; cases h1
      | inl p =>
        obtain ⟨a, b, _⟩ := av_fi_t hp
        have h2 : gl_y S p = .inr () := gl_m_n hm p a
        have h3 := av_fi_n h2 y y61
        unfold av_zr at b h3
        rw [b] at h3
        cases h3
  | some a =>
    obtain ⟨p0, y0⟩ := a
    obtain ⟨a1, a2, a3⟩ := gl_m_s hm
    dsimp only at a1 a2 a3
    obtain ⟨k1, k2, k3⟩ := av_fi_t a2
    have hz : gl_w S p0 y0 = 0 := av_zr_t k2
    cases ho : av_fi (gl_o S) 61 with
    | inr u =>
      exfalso
      have h1 := av_fi_n ho y0 k1
      unfold gl_o at h1
      cases hp : gl_p S y0 with
      | inl q => rw [hp] at h1; cases h1
      | inr u =>
        have h2 := av_fi_n hp p0 a1
        have h3 := av_zr_f h2
        exact h3 hz
    | inl y =>
      obtain ⟨j1, j2, j3⟩ := av_fi_t ho
      rw [lb_sum_l]
      unfold gl_o at j2
      cases hp : gl_p S y with
      | inr u => rw [hp] at j2; cases j2
      | inl p =>
        obtain ⟨l1, l2, l3⟩ := av_fi_t hp
        have hzp : gl_w S p y = 0 := av_zr_t l2
        have hy0 : ¬ y0 < y := by
          intro c
          have h1 := j3 y0 c
          unfold gl_o at h1
          cases hp2 : gl_p S y0 with
          | inl q => rw [hp2] at h1; cases h1
          | inr u => exact av_zr_f (av_fi_n hp2 p0 a1) hz
        have hyp : ∃ y', gl_y S p = .inl y' ∧ y' ≤ y := by
          cases hq : gl_y S p with
          | inr u => exact absurd hzp (av_zr_f (av_fi_n hq y j1))
          | inl y' =>
            refine ⟨y', rfl, ?_⟩
            obtain ⟨_, _, m3⟩ := av_fi_t hq
            by_cases c : y < y'
            · exact absurd hzp (av_zr_f (m3 y c))
            · omega
        obtain ⟨y', hy', hle⟩ := hyp
        obtain ⟨n1, n2⟩ := a3 p y' l1 hy'
        have e1 : y = y0 := by omega
        have e2 := n2 (by omega)
        have e3 : ¬ p0 < p := by
          intro c
          subst e1
          exact av_zr_f (l3 p0 c) hz
        rw [lb_sum_l]
        show nI p = nI p0
        rw [show p = p0 by omega]
