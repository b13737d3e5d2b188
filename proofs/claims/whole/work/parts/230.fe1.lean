/-! masks of pots -/
def mc (X : Nat) : Nat := av_ct (fun y => X.testBit y) 8
def mv (X n : Nat) : Nat := av_sm (fun y => if X.testBit y = true then 2 ^ y else 0) n
theorem mvD : ∀ X, X < 256 → mv X 8 = X := by decide +kernel
def mk (X : Nat) : Nat := 256 * mc X + X
theorem mk_inj {X Y : Nat} (hX : X < 256) (hY : Y < 256) (h : mk X = mk Y) : X = Y := by unfold mk at h; omega
theorem mc_add {X Y : Nat} (h : ∀ j, X.testBit j = true → Y.testBit j = true → False) : ∀ n, av_ct (fun y => (X ||| Y).testBit y) n = av_ct (fun y => X.testBit y) n + av_ct (fun y => Y.testBit y) n
  | 0 => rfl
  | n + 1 => by
    have ih := mc_add h n
    rw [av_ct, av_ct, av_ct, ih, Nat.testBit_or]
    cases hx : X.testBit n <;> cases hy : Y.testBit n
    · simp
    · simp; omega
    · simp; omega
    · exact (h n hx hy).elim
theorem mv_add {X Y : Nat} (h : ∀ j, X.testBit j = true → Y.testBit j = true → False) : ∀ n, mv (X ||| Y) n = mv X n + mv Y n
  | 0 => rfl
  | n + 1 => by
    have ih := mv_add h n
    unfold mv at ih ⊢
    rw [av_sm, av_sm, av_sm, ih, Nat.testBit_or]
    cases hx : X.testBit n <;> cases hy : Y.testBit n
    · simp
    · simp; omega
    · simp; omega
    · exact (h n hx hy).elim
theorem m_or {X Y : Nat} (hX : X < 256) (hY : Y < 256) : X ||| Y < 256 := Nat.or_lt_two_pow (n := 8) hX hY
theorem mk_add {X Y : Nat} (hX : X < 256) (hY : Y < 256) (h : ∀ j, X.testBit j = true → Y.testBit j = true → False) : mk (X ||| Y) = mk X + mk Y := by
  have h1 := mc_add h 8
  have h2 := mv_add h 8
  rw [mvD _ hX, mvD _ hY, mvD _ (m_or hX hY)] at h2
  unfold mk mc
  omega
theorem mc_le {X Y : Nat} (h : ∀ j, X.testBit j = true → Y.testBit j = true) : ∀ n, av_ct (fun y => X.testBit y) n ≤ av_ct (fun y => Y.testBit y) n
  | 0 => Nat.le_refl _
  | n + 1 => by
    have ih := mc_le h n
    rw [av_ct, av_ct]
    by_cases c : X.testBit n = true
    · rw [if_pos c, if_pos (h n c)]; omega
    · rw [if_neg c]; split <;> omega
theorem mv_le {X Y : Nat} (h : ∀ j, X.testBit j = true → Y.testBit j = true) : ∀ n, mv X n ≤ mv Y n
  | 0 => Nat.le_refl _
  | n + 1 => by
    have ih := mv_le h n
    unfold mv at ih ⊢
    rw [av_sm, av_sm]
    by_cases c : X.testBit n = true
    · rw [if_pos c, if_pos (h n c)]; omega
    · rw [if_neg c]; omega
theorem mk_le {X Y : Nat} (hX : X < 256) (hY : Y < 256) (h : ∀ j, X.testBit j = true → Y.testBit j = true) : mk X ≤ mk Y := by
  have h1 := mc_le h 8
  have h2 := mv_le h 8
  rw [mvD _ hX, mvD _ hY] at h2
  unfold mk mc
  omega
/-- the least that is so: by how many, then by value -/
def sc (Q : Nat → Bool) : Nat → Option Nat
  | 0 => none
  | n + 1 => match sc Q n with
    | none => if Q n = true then some n else none
    | some b => if mc n < mc b ∧ Q n = true then some n else some b
theorem sc_n {Q : Nat → Bool} : ∀ {n : Nat}, sc Q n = none → ∀ i, i < n → Q i = false
  | 0, _, i, hi => absurd hi (by omega)
  | n + 1, h, i, hi => by
    rw [sc] at h
    cases ho : sc Q n with
    | none =>
      rw [ho] at h
      dsimp only at h
      split at h
      · cases h
      · rename_i c
        by_cases e : i = n
        · subst e; simpa using c
        · exact sc_n ho i (by omega)
    | some b =>
      rw [ho] at h
      dsimp only at h
      split at h <;> cases h
theorem sc_s {Q : Nat → Bool} : ∀ {n b : Nat}, sc Q n = some b → b < n ∧ Q b = true ∧ ∀ i, i < n → Q i = true → mc b < mc i ∨ (mc b = mc i ∧ b ≤ i)
  | 0, b, h => by cases h
  | n + 1, b, h => by
    rw [sc] at h
    cases ho : sc Q n with
    | none =>
      rw [ho] at h
      dsimp only at h
      split at h
      · rename_i c
        cases h
        refine ⟨by omega, c, fun i hi hq => ?_⟩
        by_cases e : i = n
        · subst e; exact Or.inr ⟨rfl, Nat.le_refl _⟩
        · rw [sc_n ho i (by omega)] at hq; cases hq
      · cases h
    | some d =>
      obtain ⟨d1, d2, d3⟩ := sc_s ho
      rw [ho] at h
      dsimp only at h
      split at h
      · rename_i c
        cases h
        refine ⟨by omega, c.2, fun i hi hq => ?_⟩
        by_cases e : i = n
        · subst e; exact Or.inr ⟨rfl, Nat.le_refl _⟩
        · rcases d3 i (by omega) hq with z | z <;> omega
      · rename_i c
        cases h
        refine ⟨by omega, d2, fun i hi hq => ?_⟩
        by_cases e : i = n
        · subst e
          by_cases c2 : mc i < mc b
          · exact absurd ⟨c2, hq⟩ c
          · omega
        · exact d3 i (by omega) hq
/-- all of them together -/
def orf (f : Nat → Nat) : Nat → Nat
  | 0 => 0
  | k + 1 => orf f k ||| f k
theorem orf_bit {f : Nat → Nat} (j : Nat) : ∀ k, (orf f k).testBit j = true ↔ ∃ p, p < k ∧ (f p).testBit j = true
  | 0 => by
    rw [orf, Nat.zero_testBit]
    constructor
    · intro h; cases h
    · rintro ⟨p, h, _⟩; omega
  | k + 1 => by
    rw [orf, Nat.testBit_or, Bool.or_eq_true, orf_bit j k]
    constructor
    · rintro (⟨p, h1, h2⟩ | h)
      · exact ⟨p, by omega, h2⟩
      · exact ⟨k, by omega, h⟩
    · rintro ⟨p, h1, h2⟩
      by_cases e : p = k
      · subst e; exact Or.inr h2
      · exact Or.inl ⟨p, by omega, h2⟩
theorem orf_lt {f : Nat → Nat} {n : Nat} : ∀ k, (∀ p, p < k → f p < 2 ^ n) → orf f k < 2 ^ n
  | 0, _ => Nat.two_pow_pos n
  | k + 1, h => Nat.or_lt_two_pow (orf_lt k (fun p hp => h p (by omega))) (h k (by omega))
theorem orf_mk {f : Nat → Nat} : ∀ k, (∀ p, p < k → f p < 256) → (∀ p q j, p < k → q < k → p ≠ q → (f p).testBit j = true → (f q).testBit j = true → False) → mk (orf f k) = av_sm (fun p => mk (f p)) k
  | 0, _, _ => show mk 0 = 0 by decide
  | k + 1, h, hd => by
    rw [orf, mk_add (orf_lt (n := 8) k (fun p hp => h p (by omega))) (h k (by omega)) (fun j h1 h2 => ?_), orf_mk k (fun p hp => h p (by omega)) (fun p q j hp hq => hd p q j (by omega) (by omega)), av_sm]
    obtain ⟨p, hp, hb⟩ := (orf_bit j k).mp h1
    exact hd p k j (by omega) (by omega) (by omega) hb h2
theorem av_sm_mono {f g : Nat → Nat} : ∀ k, (∀ p, p < k → f p ≤ g p) → av_sm f k ≤ av_sm g k
  | 0, _ => Nat.le_refl _
  | k + 1, h => by
    rw [av_sm, av_sm]
    have := av_sm_mono k (fun p hp => h p (by omega))
    have := h k (by omega)
    omega
/-- each for himself -/
def cfo (F : Nat → Option Nat) : Nat → Option Nat
  | 0 => some 0
  | k + 1 => match cfo F k with
    | none => none
    | some x => match F k with
      | none => none
      | some b => some (x ||| b)
theorem cfo_n {F : Nat → Option Nat} : ∀ {k : Nat}, cfo F k = none → ∃ p, p < k ∧ F p = none
  | 0, h => by cases h
  | k + 1, h => by
    rw [cfo] at h
    cases ho : cfo F k with
    | none => obtain ⟨p, h1, h2⟩ := cfo_n ho; exact ⟨p, by omega, h2⟩
    | some x =>
      rw [ho] at h
      dsimp only at h
      cases hf : F k with
      | none => exact ⟨k, by omega, hf⟩
      | some b => rw [hf] at h; cases h
theorem cfo_s {F : Nat → Option Nat} : ∀ {k x : Nat}, cfo F k = some x → (∀ p, p < k → F p = some ((F p).getD 0)) ∧ x = orf (fun p => (F p).getD 0) k
  | 0, x, h => by cases h; exact ⟨fun p hp => absurd hp (by omega), rfl⟩
  | k + 1, x, h => by
    rw [cfo] at h
    cases ho : cfo F k with
    | none => rw [ho] at h; cases h
    | some y =>
      rw [ho] at h
      dsimp only at h
      obtain ⟨h1, h2⟩ := cfo_s ho
      cases hf : F k with
      | none => rw [hf] at h; cases h
      | some b =>
        rw [hf] at h
        cases h
        refine ⟨fun p hp => ?_, ?_⟩
        · by_cases e : p = k
          · subst e; rw [hf]; rfl
          · exact h1 p (by omega)
        · rw [orf, ← h2, hf]; rfl
theorem sc_cfo {np nn : Nat} (hnp : np ≤ 8) (D : Nat → Nat) (hD : ∀ p, D p < 2 ^ np) (hdis : ∀ p q j, p ≠ q → (D p).testBit j = true → (D q).testBit j = true → False) (K : Nat → Nat → Bool) (OK : Nat → Bool) (hOK : ∀ M, M < 2 ^ np → (OK M = true ↔ ∀ p, p < nn → K p (M &&& D p) = true)) (Q : Nat → Nat → Bool) (hQ : ∀ p i, i < 2 ^ np → (Q p i = true ↔ (∀ j, i.testBit j = true → (D p).testBit j = true) ∧ K p i = true)) : sc OK (2 ^ np) = cfo (fun p => sc (Q p) (D p + 1)) nn := by
  have h2 : 2 ^ np ≤ 256 := Nat.pow_le_pow_right (n := 2) (by decide) hnp
  have hsub : ∀ M p, (M &&& D p) ≤ D p := fun M p => Nat.and_le_right
  have hsubb : ∀ M p j, (M &&& D p).testBit j = true → M.testBit j = true ∧ (D p).testBit j = true := by
    intro M p j h
    rw [Nat.testBit_and, Bool.and_eq_true] at h
    exact h
  cases hc : cfo (fun p => sc (Q p) (D p + 1)) nn with
  | none =>
    obtain ⟨p, hp, hF⟩ := cfo_n hc
    cases ho : sc OK (2 ^ np) with
    | none => rfl
    | some b =>
      exfalso
      obtain ⟨b1, b2, _⟩ := sc_s ho
      have h3 := (hOK b b1).mp b2 p hp
      have h4 := sc_n hF (b &&& D p) (by have := hsub b p; omega)
      have h5 := (hQ p (b &&& D p) (Nat.lt_of_le_of_lt (hsub b p) (hD p))).mpr ⟨fun j hj => (hsubb b p j hj).2, h3⟩
      rw [h4] at h5
      cases h5
  | some x =>
    obtain ⟨hF, hx⟩ := cfo_s hc
    generalize hf : (fun p => ((sc (Q p) (D p + 1)).getD 0)) = f at hx
    have hfp : ∀ p, p < nn → sc (Q p) (D p + 1) = some (f p) := fun p hp => by rw [← hf]; exact hF p hp
    have hs : ∀ p, p < nn → f p ≤ D p ∧ Q p (f p) = true ∧ ∀ i, i < D p + 1 → Q p i = true → mc (f p) < mc i ∨ (mc (f p) = mc i ∧ f p ≤ i) := fun p hp => by
      obtain ⟨a, b, c⟩ := sc_s (hfp p hp)
      exact ⟨by omega, b, c⟩
    have hfl : ∀ p, p < nn → f p < 2 ^ np := fun p hp => Nat.lt_of_le_of_lt (hs p hp).1 (hD p)
    have hq : ∀ p, p < nn → (∀ j, (f p).testBit j = true → (D p).testBit j = true) ∧ K p (f p) = true := fun p hp => (hQ p (f p) (hfl p hp)).mp (hs p hp).2.1
    have hxl : x < 2 ^ np := by rw [hx]; exact orf_lt nn hfl
    have hxD : ∀ p, p < nn → x &&& D p = f p := by
      intro p hp
      apply Nat.eq_of_testBit_eq
      intro j
      rw [Bool.eq_iff_iff, Nat.testBit_and, Bool.and_eq_true, hx, orf_bit]
      constructor
      · rintro ⟨⟨q, h1, h3⟩, h4⟩
        by_cases e : q = p
        · subst e; exact h3
        · exact (hdis q p j e ((hq q h1).1 j h3) h4).elim
      · intro h
        exact ⟨⟨p, hp, h⟩, (hq p hp).1 j h⟩
    have hOx : OK x = true := (hOK x hxl).mpr (fun p hp => by rw [hxD p hp]; exact (hq p hp).2)
    cases ho : sc OK (2 ^ np) with
    | none => rw [sc_n ho x hxl] at hOx; cases hOx
    | some b =>
      obtain ⟨b1, b2, b3⟩ := sc_s ho
      have hle : mk b ≤ mk x := by
        unfold mk
        rcases b3 x hxl hOx with z | z <;> omega
      have hge : mk x ≤ mk b := by
        rw [hx, orf_mk nn (fun p hp => by have := hfl p hp; omega) (fun p q j hp hq' e h1 h3 => hdis p q j e ((hq p hp).1 j h1) ((hq q hq').1 j h3))]
        refine Nat.le_trans (av_sm_mono (g := fun p => mk (b &&& D p)) nn (fun p hp => ?_)) ?_
        · have h3 := (hOK b b1).mp b2 p hp
          have h5 := (hQ p (b &&& D p) (Nat.lt_of_le_of_lt (hsub b p) (hD p))).mpr ⟨fun j hj => (hsubb b p j hj).2, h3⟩
          have h6 := (hs p hp).2.2 (b &&& D p) (by have := hsub b p; omega) h5
          have h7 := hfl p hp
          have h8 := Nat.lt_of_le_of_lt (hsub b p) (hD p)
          show mk (f p) ≤ mk (b &&& D p)
          unfold mk
          rcases h6 with z | z <;> omega
        · have h9 : ∀ p, p < nn → (b &&& D p) < 256 := fun p _ => by have := Nat.lt_of_le_of_lt (hsub b p) (hD p); omega
          rw [← orf_mk (f := fun p => b &&& D p) nn h9 (fun p q j _ _ e h1 h3 => hdis p q j e (hsubb b p j h1).2 (hsubb b q j h3).2)]
          refine mk_le (orf_lt (n := 8) nn h9) (by omega) (fun j hj => ?_)
          obtain ⟨p, _, hb⟩ := (orf_bit j nn).mp hj
          exact (hsubb b p j hb).1
      rw [mk_inj (by omega) (by omega) (Nat.le_antisymm hle hge)]
