/-! numbers -/
theorem lb_k0 : (0 : Int32) = nI 0 := rfl
theorem lb_k1 : (1 : Int32) = nI 1 := rfl
theorem lb_k2 : (2 : Int32) = nI 2 := rfl
theorem lb_k3 : (3 : Int32) = nI 3 := rfl
theorem lb_k4 : (4 : Int32) = nI 4 := rfl
theorem lb_k5 : (5 : Int32) = nI 5 := rfl
theorem lb_k6 : (6 : Int32) = nI 6 := rfl
theorem lb_k7 : (7 : Int32) = nI 7 := rfl
theorem lb_k8 : (8 : Int32) = nI 8 := rfl
theorem lb_k9 : (9 : Int32) = nI 9 := rfl
theorem lb_k10 : (10 : Int32) = nI 10 := rfl
theorem lb_k11 : (11 : Int32) = nI 11 := rfl
theorem lb_k12 : (12 : Int32) = nI 12 := rfl
theorem lb_k13 : (13 : Int32) = nI 13 := rfl
theorem lb_k14 : (14 : Int32) = nI 14 := rfl
theorem lb_k15 : (15 : Int32) = nI 15 := rfl
theorem lb_k16 : (16 : Int32) = nI 16 := rfl
theorem lb_k19 : (19 : Int32) = nI 19 := rfl
theorem lb_k20 : (20 : Int32) = nI 20 := rfl
theorem lb_k30 : (30 : Int32) = nI 30 := rfl
theorem lb_k31 : (31 : Int32) = nI 31 := rfl
theorem lb_k48 : (48 : Int32) = nI 48 := rfl
theorem lb_k51 : (51 : Int32) = nI 51 := rfl
theorem lb_k55 : (55 : Int32) = nI 55 := rfl
theorem lb_k59 : (59 : Int32) = nI 59 := rfl
theorem lb_k60 : (60 : Int32) = nI 60 := rfl
theorem lb_k61 : (61 : Int32) = nI 61 := rfl
theorem lb_k63 : (63 : Int32) = nI 63 := rfl
theorem lb_k96 : (96 : Int32) = nI 96 := rfl
theorem lb_k98 : (98 : Int32) = nI 98 := rfl
theorem lb_k99 : (99 : Int32) = nI 99 := rfl
theorem lb_k100 : (100 : Int32) = nI 100 := rfl
theorem lb_k102 : (102 : Int32) = nI 102 := rfl
theorem lb_k103 : (103 : Int32) = nI 103 := rfl
theorem lb_k104 : (104 : Int32) = nI 104 := rfl
theorem lb_k106 : (106 : Int32) = nI 106 := rfl
theorem lb_k107 : (107 : Int32) = nI 107 := rfl
theorem lb_k108 : (108 : Int32) = nI 108 := rfl
theorem lb_k112 : (112 : Int32) = nI 112 := rfl
theorem lb_k115 : (115 : Int32) = nI 115 := rfl
theorem lb_k116 : (116 : Int32) = nI 116 := rfl
theorem lb_k121 : (121 : Int32) = nI 121 := rfl
theorem lb_k255 : (255 : Int32) = nI 255 := rfl
theorem lb_k256 : (256 : Int32) = nI 256 := rfl
theorem lb_k999 : (999 : Int32) = nI 999 := rfl
theorem lb_ne9D : ∀ t, t < 8 → ¬ nI t = (-9 : Int32) := by decide +kernel
theorem lb_ne9 {t : Nat} (h : t < 8) : ¬ nI t = (-9 : Int32) := lb_ne9D t h
theorem lb_ixN {i n : Nat} (h : i < n) (hn : n < 2147483648) : lb_ix (nI i) n = true := by
  simp only [lb_ix, Bool.and_eq_true, decide_eq_true_eq]
  exact ⟨nI_pos (by omega), by rw [nI_clamp (by omega)]; exact h⟩
theorem lb_chkT {α : Type} {x : Option α} : lb_chk true x = x := rfl
theorem lb_letS {α β : Type} (x : α) (f : α → β) : lb_let x f = f x := rfl
theorem lb_bndS {α β : Type} (x : α) (f : α → Option β) : (some x).bind f = f x := rfl
theorem lb_cl {n : Nat} (h : n < 2147483648) : (nI n).toNatClampNeg = n := nI_clamp (by omega)
theorem lb_le {a b : Nat} (ha : a < 2147483648) (hb : b < 2147483648) : (nI a ≤ nI b) = (a ≤ b) := propext (nI_leI (by omega) (by omega))
theorem lb_lt {a b : Nat} (ha : a < 2147483648) (hb : b < 2147483648) : (nI a < nI b) = (a < b) := propext (nI_ltI (by omega) (by omega))
theorem lb_eq {a b : Nat} (ha : a < 2147483648) (hb : b < 2147483648) : (nI a = nI b) = (a = b) := propext (nI_eq (by omega) (by omega))
theorem lb_ad1 (a b : Nat) : nI a + nI b = nI (a + b) := nI_add a b
theorem lb_sb1 {a b : Nat} (h : b ≤ a) : nI a - nI b = nI (a - b) := pk_sub h
theorem lb_ml1 (a b : Nat) : nI a * nI b = nI (a * b) := pk_mul a b
/-! loops -/
theorem lb_loop {R : Type} (L : Nat → Nat → R) (N M : Nat) (r : R) (hM : N < M) (hs : ∀ n i, i < N → L (n + 1) i = L n (i + 1)) (he : ∀ n, L (n + 1) N = r) : L M 0 = r := by
  have key : ∀ k i n, i + k = N → k < n → L n i = r := by
    intro k
    induction k with
    | zero =>
      intro i n h1 h2
      obtain rfl : i = N := by omega
      cases n with
      | zero => omega
      | succ n => exact he n
    | succ k ih =>
      intro i n h1 h2
      cases n with
      | zero => omega
      | succ n => rw [hs n i (by omega)]; exact ih (i + 1) n (by omega) (by omega)
  exact key N 0 M (by omega) hM
theorem lb_loopR {S R : Type} (L : Nat → S → R) (I : Nat → S → Prop) (N M : Nat) (hM : N < M) (hs : ∀ n i s, i < N → I i s → ∃ s', I (i + 1) s' ∧ L (n + 1) s = L n s') (s0 : S) (h0 : I 0 s0) : ∃ n s, I N s ∧ L M s0 = L (n + 1) s := by
  have key : ∀ k i n s, i + k = N → k < n → I i s → ∃ n' s', I N s' ∧ L n s = L (n' + 1) s' := by
    intro k
    induction k with
    | zero =>
      intro i n s h1 h2 h3
      obtain rfl : i = N := by omega
      cases n with
      | zero => omega
      | succ n => exact ⟨n, s, h3, rfl⟩
    | succ k ih =>
      intro i n s h1 h2 h3
      cases n with
      | zero => omega
      | succ n =>
        obtain ⟨s', a1, a2⟩ := hs n i s (by omega) h3
        rw [a2]
        exact ih (i + 1) n s' (by omega) (by omega) a1
  exact key N 0 M s0 (by omega) hM h0
theorem lb_N300 : lb_N = 300 := rfl
/-! a village of numbers: rows 0 kind, 1 figure, 2 holds, 3 label, 4 full, 5 owner (by pots), 6 likes, 7 grace (by people), 8: 0 pots, 1 people, 2 year -/
abbrev av_V : Type := Nat → Nat → Nat
def av_st (V : av_V) (a i x : Nat) : av_V := fun a' i' => if a' = a ∧ i' = i then x else V a' i'
theorem av_st_s (V : av_V) (a i x : Nat) : av_st V a i x a i = x := if_pos ⟨rfl, rfl⟩
theorem av_st_a (V : av_V) {a a' : Nat} (h : a' ≠ a) (i i' x : Nat) : av_st V a i x a' i' = V a' i' := if_neg (fun z => h z.1)
theorem av_st_i (V : av_V) {i i' : Nat} (h : i' ≠ i) (a a' x : Nat) : av_st V a i x a' i' = V a' i' := if_neg (fun z => h z.2)
def av_ln (a : Nat) : Nat := if a < 6 then 8 else 5
def av_C (b : Nat) (σ : lb_Mem) (V : av_V) : Prop := (∀ a t, a < 8 → t < av_ln a → σ (b + 8 + a) t = nI (V a t)) ∧ ∀ j, j < 3 → σ b (9 + j) = nI (V 8 j)
def av_W (V : av_V) : Prop := V 8 0 ≤ 8 ∧ V 8 1 ≤ 5 ∧ (∀ t, t < 8 → V 0 t < 6 ∧ V 1 t ≤ 9 ∧ V 2 t < 6 ∧ V 3 t ≤ 6 ∧ V 4 t ≤ 9 ∧ V 5 t < 5) ∧ (∀ t, t < V 8 0 → V 5 t < V 8 1) ∧ ∀ p, p < 5 → V 6 p < 6 ∧ V 7 p ≤ 99
section CR
variable {b : Nat} {σ : lb_Mem} {V : av_V}
theorem av_C.r0 (h : av_C b σ V) : ∀ t, t < 8 → σ (b + 8) t = nI (V 0 t) := fun t ht => h.1 0 t (by decide) ht
theorem av_C.r1 (h : av_C b σ V) : ∀ t, t < 8 → σ (b + 9) t = nI (V 1 t) := fun t ht => h.1 1 t (by decide) ht
theorem av_C.r2 (h : av_C b σ V) : ∀ t, t < 8 → σ (b + 10) t = nI (V 2 t) := fun t ht => h.1 2 t (by decide) ht
theorem av_C.r3 (h : av_C b σ V) : ∀ t, t < 8 → σ (b + 11) t = nI (V 3 t) := fun t ht => h.1 3 t (by decide) ht
theorem av_C.r4 (h : av_C b σ V) : ∀ t, t < 8 → σ (b + 12) t = nI (V 4 t) := fun t ht => h.1 4 t (by decide) ht
theorem av_C.r5 (h : av_C b σ V) : ∀ t, t < 8 → σ (b + 13) t = nI (V 5 t) := fun t ht => h.1 5 t (by decide) ht
theorem av_C.r6 (h : av_C b σ V) : ∀ t, t < 5 → σ (b + 14) t = nI (V 6 t) := fun t ht => h.1 6 t (by decide) ht
theorem av_C.r7 (h : av_C b σ V) : ∀ t, t < 5 → σ (b + 15) t = nI (V 7 t) := fun t ht => h.1 7 t (by decide) ht
theorem av_C.np (h : av_C b σ V) : σ b 9 = nI (V 8 0) := h.2 0 (by decide)
theorem av_C.nn (h : av_C b σ V) : σ b 10 = nI (V 8 1) := h.2 1 (by decide)
theorem av_C.yr (h : av_C b σ V) : σ b 11 = nI (V 8 2) := h.2 2 (by decide)
end CR
/-! what the village does, in numbers -/
def av_off (a c : Nat) : Nat := if (a - c) + (c - a) ≤ 3 then (a - c) + (c - a) else 6 - ((a - c) + (c - a))
def av_d (V : av_V) (t : Nat) : Nat := if V 3 t = 6 then 1 else av_off (V 2 t) (V 3 t)
def av_g (k f d e : Nat) : Int := if k = 0 then (if d = 0 then 2 else -(d : Int)) else if k = 1 then 2 * (if d = 0 then 2 else -(d : Int)) else if k = 2 then (if d = 0 then 2 else -(d : Int)) + (f / 4 : Nat) else if k = 3 then (if d ≤ 1 then 2 * (if d = 0 then 2 else -(d : Int)) else 2 * (if d = 0 then 2 else -(d : Int)) - (f / 2 : Nat)) else if k = 4 then max 0 ((if d = 0 then 2 else -(d : Int)) + (f / 4 : Nat)) else (if d = 0 then 2 else -(d : Int)) - e
def av_gn (V : av_V) (t p : Nat) : Int := av_g (V 0 t) (V 1 t) (av_d V t) (av_off (V 2 t) (V 6 p))
def av_wo (V : av_V) (p t : Nat) : Nat := if V 3 t = 6 then 2 else av_off (V 3 t) (V 6 p)
def av_op (V : av_V) (p : Nat) : Nat → Option Nat
  | 0 => none
  | n + 1 => match av_op V p n with
    | none => if V 5 n = p ∧ 0 < V 4 n then some n else none
    | some t => if (V 5 n = p ∧ 0 < V 4 n) ∧ av_wo V p n < av_wo V p t then some n else some t
def av_enc : Option Nat → Int32
  | none => -9
  | some t => nI t
theorem av_enc_n : av_enc none = -9 := rfl
theorem av_enc_s (t : Nat) : av_enc (some t) = nI t := rfl
theorem av_op_lt {V : av_V} {p : Nat} : ∀ {n t : Nat}, av_op V p n = some t → t < n
  | 0, t, h => by cases h
  | n + 1, t, h => by
    rw [av_op] at h
    cases ho : av_op V p n with
    | none =>
      rw [ho] at h
      dsimp only at h
      by_cases hc : V 5 n = p ∧ 0 < V 4 n
      · rw [if_pos hc] at h; cases h; omega
      · rw [if_neg hc] at h; cases h
    | some u =>
      rw [ho] at h
      have hu := av_op_lt ho
      dsimp only at h
      by_cases hc : (V 5 n = p ∧ 0 < V 4 n) ∧ av_wo V p n < av_wo V p u
      · rw [if_pos hc] at h; cases h; omega
      · rw [if_neg hc] at h; cases h; omega
theorem av_off_le {a c : Nat} (ha : a < 6) (hc : c < 6) : av_off a c ≤ 3 := by unfold av_off; split <;> omega
theorem av_wo_le {V : av_V} {p t : Nat} (hw : av_W V) (hp : p < 5) (ht : t < 8) : av_wo V p t ≤ 3 := by
  unfold av_wo
  have h1 := hw.2.2.1 t ht
  have h2 := hw.2.2.2.2 p hp
  split
  · omega
  · exact av_off_le (by omega) (by omega)
