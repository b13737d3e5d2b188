/-- alike for one of the people, whatever stands on the others' labels -/
def av_bl (p : Nat) (V U : av_V) : Prop := (∀ a i, a ≠ 3 → a ≠ 4 → a ≠ 7 → a ≠ 8 → V a i = U a i) ∧ V 8 0 = U 8 0 ∧ V 7 p = U 7 p ∧ ∀ t, V 5 t = p → V 4 t = U 4 t ∧ V 3 t = U 3 t
theorem av_bl.five {p : Nat} {V U : av_V} (h : av_bl p V U) (t : Nat) : V 5 t = U 5 t := h.1 5 t (by decide) (by decide) (by decide) (by decide)
theorem av_bl.wo {p : Nat} {V U : av_V} (h : av_bl p V U) {t : Nat} (ht : V 5 t = p) : av_wo V p t = av_wo U p t := by
  unfold av_wo
  rw [(h.2.2.2 t ht).2, h.1 6 p (by decide) (by decide) (by decide) (by decide)]
theorem av_bl.own {p : Nat} {V U : av_V} (h : av_bl p V U) (t : Nat) : (V 5 t = p ∧ 0 < V 4 t) ↔ (U 5 t = p ∧ 0 < U 4 t) := by
  have e5 := h.five t
  constructor
  · rintro ⟨h1, h2⟩; exact ⟨by rw [← e5]; exact h1, by rw [← (h.2.2.2 t h1).1]; exact h2⟩
  · rintro ⟨h1, h2⟩
    have h3 : V 5 t = p := by rw [e5]; exact h1
    exact ⟨h3, by rw [(h.2.2.2 t h3).1]; exact h2⟩
theorem av_bl.op {p : Nat} {V U : av_V} (h : av_bl p V U) : ∀ n, av_op V p n = av_op U p n
  | 0 => rfl
  | n + 1 => by
    have ih := av_bl.op h n
    rw [av_op, av_op, ← ih]
    cases ho : av_op V p n with
    | none =>
      dsimp only
      by_cases c : V 5 n = p ∧ 0 < V 4 n
      · rw [if_pos c, if_pos ((h.own n).mp c)]
      · rw [if_neg c, if_neg (fun z => c ((h.own n).mpr z))]
    | some t =>
      dsimp only
      have ht := (av_op_own ho).1
      rw [← h.wo ht]
      by_cases c : (V 5 n = p ∧ 0 < V 4 n) ∧ av_wo V p n < av_wo V p t
      · rw [if_pos c, if_pos ⟨(h.own n).mp c.1, by rw [← h.wo c.1.1]; exact c.2⟩]
      · rw [if_neg c, if_neg (fun z => c ⟨(h.own n).mpr z.1, by rw [h.wo ((h.own n).mpr z.1).1]; exact z.2⟩)]
theorem av_bl.gn {p : Nat} {V U : av_V} (h : av_bl p V U) {t : Nat} (ht : V 5 t = p) : av_gn V t p = av_gn U t p := by
  unfold av_gn av_d
  rw [h.1 0 t (by decide) (by decide) (by decide) (by decide), h.1 1 t (by decide) (by decide) (by decide) (by decide), h.1 2 t (by decide) (by decide) (by decide) (by decide), (h.2.2.2 t ht).2, h.1 6 p (by decide) (by decide) (by decide) (by decide)]
theorem av_bl.y {p : Nat} {V U : av_V} (h : av_bl p V U) : av_bl p (av_y V p) (av_y U p) := by
  have ho : av_op V p (V 8 0) = av_op U p (U 8 0) := by rw [h.op, h.2.1]
  refine ⟨fun a i h0 h1 h2 h3 => by rw [av_y_st _ _ _ _ h1 h2, av_y_st _ _ _ _ h1 h2]; exact h.1 a i h0 h1 h2 h3, by rw [av_y8, av_y8]; exact h.2.1, ?_, fun t ht => ?_⟩
  · unfold av_y
    rw [← ho]
    cases hu : av_op V p (V 8 0) with
    | none => dsimp only; rw [av_st_s, av_st_s, h.2.2.1]
    | some t => dsimp only; rw [av_st_s, av_st_s, h.2.2.1, h.gn (av_op_own hu).1]
  · have ht5 : V 5 t = p := by rw [← av_y_st V p 5 t (by decide) (by decide)]; exact ht
    refine ⟨?_, by rw [av_y_st _ _ _ _ (by decide) (by decide), av_y_st _ _ _ _ (by decide) (by decide)]; exact (h.2.2.2 t ht5).2⟩
    unfold av_y
    rw [← ho]
    cases hu : av_op V p (V 8 0) with
    | none => dsimp only; rw [av_st_a _ (by decide), av_st_a _ (by decide)]; exact (h.2.2.2 t ht5).1
    | some u =>
      dsimp only
      rw [av_st_a _ (show (4 : Nat) ≠ 7 by decide), av_st_a _ (show (4 : Nat) ≠ 7 by decide)]
      by_cases e : t = u
      · subst e; rw [av_st_s, av_st_s, (h.2.2.2 t ht5).1]
      · rw [av_st_i _ e, av_st_i _ e]; exact (h.2.2.2 t ht5).1
theorem av_bl.pp {p : Nat} {V U : av_V} (h : av_bl p V U) : ∀ n, av_bl p (av_p V p n) (av_p U p n)
  | 0 => h
  | n + 1 => (av_bl.pp h n).y
/-- labels by what is in them, for the pots of a mask -/
def rl (S : av_V) (X : Nat) : Nat → av_V
  | 0 => S
  | n + 1 => if X.testBit n = true then av_st (rl S X n) 3 n (S 2 n) else rl S X n
theorem rl_o (S : av_V) (X : Nat) {a i : Nat} (h : a ≠ 3) : ∀ n, rl S X n a i = S a i
  | 0 => rfl
  | n + 1 => by
    rw [rl]
    split
    · rw [av_st_a _ h]; exact rl_o S X h n
    · exact rl_o S X h n
theorem rl_3 (S : av_V) (X t : Nat) : ∀ n, rl S X n 3 t = if t < n ∧ X.testBit t = true then S 2 t else S 3 t
  | 0 => by rw [if_neg (by omega)]; rfl
  | n + 1 => by
    have ih := rl_3 S X t n
    rw [rl]
    by_cases e : t = n
    · subst e
      rw [if_neg (fun z => absurd z.1 (by omega))] at ih
      by_cases c : X.testBit t = true
      · rw [if_pos c, if_pos ⟨by omega, c⟩, av_st_s]
      · rw [if_neg c, if_neg (fun z => c z.2)]; exact ih
    · have e2 : (t < n + 1 ∧ X.testBit t = true) ↔ (t < n ∧ X.testBit t = true) := by
        constructor
        · rintro ⟨a, b⟩; exact ⟨by omega, b⟩
        · rintro ⟨a, b⟩; exact ⟨by omega, b⟩
      have ih2 : rl S X n 3 t = if t < n + 1 ∧ X.testBit t = true then S 2 t else S 3 t := by
        rw [ih]
        by_cases c : t < n ∧ X.testBit t = true
        · rw [if_pos c, if_pos (e2.mpr c)]
        · rw [if_neg c, if_neg (fun z => c (e2.mp z))]
      split
      · rw [av_st_i _ e]; exact ih2
      · exact ih2
theorem rl_W {S : av_V} (hv : av_W S) (X : Nat) : ∀ n, n ≤ 8 → av_W (rl S X n)
  | 0, _ => hv
  | n + 1, h => by
    have h2 := hv.2.2.1 n (by omega)
    rw [rl]
    split
    · exact (rl_W hv X n (by omega)).set (by omega)
    · exact rl_W hv X n (by omega)
/-- the pots of one of the people whose label isn't what is in them -/
def fD (S : av_V) (p : Nat) : Nat := av_bt (fun t => decide (S 5 t = p ∧ ¬ S 3 t = S 2 t)) id (S 8 0)
theorem fD_bit (S : av_V) (p j : Nat) : (fD S p).testBit j = true ↔ j < S 8 0 ∧ S 5 j = p ∧ ¬ S 3 j = S 2 j := by
  unfold fD
  rw [av_bt_bit]
  constructor
  · rintro ⟨t, h1, h2, h3⟩
    obtain rfl : t = j := h3
    exact ⟨h1, of_decide_eq_true h2⟩
  · rintro ⟨h1, h2⟩
    exact ⟨j, h1, decide_eq_true h2, rfl⟩
theorem fD_lt (S : av_V) (p : Nat) : fD S p < 2 ^ S 8 0 := av_bt_lt _ (fun t ht => ht)
theorem rl_bl (S : av_V) (M p : Nat) : av_bl p (rl S M (S 8 0)) (rl S (M &&& fD S p) (S 8 0)) := by
  refine ⟨fun a i h0 _ _ _ => by rw [rl_o _ _ h0, rl_o _ _ h0], by rw [rl_o _ _ (by decide), rl_o _ _ (by decide)], by rw [rl_o _ _ (by decide), rl_o _ _ (by decide)], fun t ht => ⟨by rw [rl_o _ _ (by decide), rl_o _ _ (by decide)], ?_⟩⟩
  rw [rl_o _ _ (by decide)] at ht
  have hb : (M &&& fD S p).testBit t = true ↔ M.testBit t = true ∧ t < S 8 0 ∧ S 5 t = p ∧ ¬ S 3 t = S 2 t := by rw [Nat.testBit_and, Bool.and_eq_true, fD_bit]
  rw [rl_3, rl_3]
  by_cases c1 : t < S 8 0 ∧ M.testBit t = true
  · rw [if_pos c1]
    by_cases c2 : S 3 t = S 2 t
    · rw [if_neg (fun z => (hb.mp z.2).2.2.2 c2)]; exact c2.symm
    · rw [if_pos ⟨c1.1, hb.mpr ⟨c1.2, c1.1, ht, c2⟩⟩]
  · rw [if_neg c1, if_neg (fun z => c1 ⟨z.1, (hb.mp z.2).1⟩)]
/-- he keeps his grace -/
def fK (S : av_V) (m p X : Nat) : Bool := lb_sum (fun _ => false) (fun _ => true) (av_fi (av_zr (fun y => av_p (rl S X (S 8 0)) p y 7 p)) (m + 1))
theorem fK_iff (S : av_V) (m p X : Nat) : fK S m p X = true ↔ ∀ y, y < m + 1 → ¬ av_p (rl S X (S 8 0)) p y 7 p = 0 := by
  unfold fK
  cases ho : av_fi (av_zr (fun y => av_p (rl S X (S 8 0)) p y 7 p)) (m + 1) with
  | inl y =>
    obtain ⟨h1, h2, _⟩ := av_fi_t ho
    constructor
    · intro h; cases h
    · intro h; exact absurd (av_zr_t h2) (h y h1)
  | inr u =>
    constructor
    · intro _ y hy; exact av_zr_f (av_fi_n ho y hy)
    · intro _; rfl
/-- nobody is without -/
def fN (V : av_V) (m : Nat) : Bool := lb_sum (fun _ => false) (fun _ => true) (av_fi (gl_o V) (m + 1))
theorem gl_o_iff (V : av_V) (y : Nat) : gl_o V y = false ↔ ∀ p, p < V 8 1 → ¬ av_ys V y 7 p = 0 := by
  unfold gl_o gl_p
  cases ho : av_fi (av_zr (fun p => gl_w V p y)) (V 8 1) with
  | inl p =>
    obtain ⟨h1, h2, _⟩ := av_fi_t ho
    constructor
    · intro h; cases h
    · intro h; exact absurd (av_zr_t h2) (h p h1)
  | inr u =>
    constructor
    · intro _ p hp; exact av_zr_f (av_fi_n ho p hp)
    · intro _; rfl
theorem fN_iff (V : av_V) (m : Nat) : fN V m = true ↔ ∀ y, y < m + 1 → ∀ p, p < V 8 1 → ¬ av_ys V y 7 p = 0 := by
  unfold fN
  cases ho : av_fi (gl_o V) (m + 1) with
  | inl y =>
    obtain ⟨h1, h2, _⟩ := av_fi_t ho
    constructor
    · intro h; cases h
    · intro h
      rw [(gl_o_iff V y).mpr (h y h1)] at h2
      cases h2
  | inr u =>
    constructor
    · intro _ y hy; exact (gl_o_iff V y).mp (av_fi_n ho y hy)
    · intro _; rfl
def fOK (S : av_V) (m M : Nat) : Bool := fN (rl S M (S 8 0)) m
theorem fOK_iff (S : av_V) (m M : Nat) : fOK S m M = true ↔ ∀ p, p < S 8 1 → fK S m p (M &&& fD S p) = true := by
  unfold fOK
  rw [fN_iff]
  have h8 : rl S M (S 8 0) 8 1 = S 8 1 := rl_o _ _ (by decide) _
  have e : ∀ p y, p < S 8 1 → av_ys (rl S M (S 8 0)) y 7 p = av_p (rl S (M &&& fD S p) (S 8 0)) p y 7 p := by
    intro p y hp
    rw [(av_ys_al (V := rl S M (S 8 0)) (p := p) (by rw [h8]; exact hp) y).2.2.2.1]
    exact ((rl_bl S M p).pp y).2.2.1
  constructor
  · intro h p hp
    rw [fK_iff]
    intro y hy
    rw [← e p y hp]
    exact h y hy p (by rw [h8]; exact hp)
  · intro h y hy p hp
    rw [h8] at hp
    rw [e p y hp]
    exact (fK_iff _ _ _ _).mp (h p hp) y hy
def fQ (S : av_V) (m p i : Nat) : Bool := decide (i &&& (fD S p ^^^ 255) = 0) && fK S m p i
theorem m255 : ∀ j, (255 : Nat).testBit j = decide (j < 8) := fun j => by
  rw [show (255 : Nat) = 2 ^ 8 - 1 from rfl, Nat.testBit_two_pow_sub_one]
theorem m_sub {i D : Nat} (hi : i < 256) : i &&& (D ^^^ 255) = 0 ↔ ∀ j, i.testBit j = true → D.testBit j = true := by
  constructor
  · intro h j hj
    have h1 : (i &&& (D ^^^ 255)).testBit j = false := by rw [h, Nat.zero_testBit]
    rw [Nat.testBit_and, Nat.testBit_xor, hj, m255] at h1
    by_cases c : j < 8
    · simpa [c] using h1
    · rw [Nat.testBit_lt_two_pow (Nat.lt_of_lt_of_le hi (Nat.pow_le_pow_right (n := 2) (i := 8) (by decide) (by omega)))] at hj; cases hj
  · intro h
    apply Nat.eq_of_testBit_eq
    intro j
    rw [Nat.testBit_and, Nat.testBit_xor, m255, Nat.zero_testBit]
    by_cases c : i.testBit j = true
    · rw [c, h j c]
      by_cases c8 : j < 8
      · simp [c8]
      · rw [Nat.testBit_lt_two_pow (Nat.lt_of_lt_of_le hi (Nat.pow_le_pow_right (n := 2) (i := 8) (by decide) (by omega)))] at c; cases c
    · simp at c; rw [c]; rfl
theorem fewest_same {S : av_V} (hv : av_W S) (m : Nat) : sc (fOK S m) (2 ^ S 8 0) = cfo (fun p => sc (fQ S m p) (fD S p + 1)) (S 8 1) := by
  have h2 : 2 ^ S 8 0 ≤ 256 := Nat.pow_le_pow_right (n := 2) (by decide) hv.1
  refine sc_cfo hv.1 (fD S) (fD_lt S) (fun p q j e h1 h2 => ?_) (fK S m) (fOK S m) (fun M _ => fOK_iff S m M) (fQ S m) (fun p i hi => ?_)
  · have a := ((fD_bit S p j).mp h1).2.1
    have b := ((fD_bit S q j).mp h2).2.1
    exact e (a.symm.trans b)
  · unfold fQ
    rw [Bool.and_eq_true, decide_eq_true_eq, m_sub (by omega)]
