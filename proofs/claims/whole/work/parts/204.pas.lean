/-! all of the people, one after another (the class), year by year (the reference): the same -/
def av_pq (V : av_V) (n : Nat) : Nat → av_V
  | 0 => V
  | q + 1 => av_p (av_pq V n q) q n
def av_pa (V : av_V) (n : Nat) : av_V := av_st (av_pq V n (V 8 1)) 8 2 (V 8 2 + n)
def av_yq (V : av_V) : Nat → av_V
  | 0 => av_st V 8 2 (V 8 2 + 1)
  | q + 1 => av_y (av_yq V q) q
def av_ye (V : av_V) : av_V := av_yq V (V 8 1)
def av_ys (V : av_V) : Nat → av_V
  | 0 => V
  | n + 1 => av_ye (av_ys V n)
/-- alike for one of the people -/
def av_al (p : Nat) (V U : av_V) : Prop := (∀ a i, a ≠ 4 → a ≠ 7 → a ≠ 8 → V a i = U a i) ∧ V 8 0 = U 8 0 ∧ V 8 1 = U 8 1 ∧ V 7 p = U 7 p ∧ ∀ t, V 5 t = p → V 4 t = U 4 t
theorem av_al.rf (p : Nat) (V : av_V) : av_al p V V := ⟨fun _ _ _ _ _ => rfl, rfl, rfl, rfl, fun _ _ => rfl⟩
theorem av_al.tr {p : Nat} {V U T : av_V} (h : av_al p V U) (g : av_al p U T) : av_al p V T := ⟨fun a i h1 h2 h3 => (h.1 a i h1 h2 h3).trans (g.1 a i h1 h2 h3), h.2.1.trans g.2.1, h.2.2.1.trans g.2.2.1, h.2.2.2.1.trans g.2.2.2.1, fun t ht => (h.2.2.2.2 t ht).trans (g.2.2.2.2 t (by rw [← h.1 5 t (by decide) (by decide) (by decide)]; exact ht))⟩
theorem av_al.sy {p : Nat} {V U : av_V} (h : av_al p V U) : av_al p U V := ⟨fun a i h1 h2 h3 => (h.1 a i h1 h2 h3).symm, h.2.1.symm, h.2.2.1.symm, h.2.2.2.1.symm, fun t ht => (h.2.2.2.2 t (by rw [h.1 5 t (by decide) (by decide) (by decide)]; exact ht)).symm⟩
theorem av_al.wo {p : Nat} {V U : av_V} (h : av_al p V U) (t : Nat) : av_wo V p t = av_wo U p t := by
  unfold av_wo
  rw [h.1 3 t (by decide) (by decide) (by decide), h.1 6 p (by decide) (by decide) (by decide)]
theorem av_al.own {p : Nat} {V U : av_V} (h : av_al p V U) (t : Nat) : (V 5 t = p ∧ 0 < V 4 t) ↔ (U 5 t = p ∧ 0 < U 4 t) := by
  have e5 := h.1 5 t (by decide) (by decide) (by decide)
  constructor
  · rintro ⟨h1, h2⟩; exact ⟨by rw [← e5]; exact h1, by rw [← h.2.2.2.2 t h1]; exact h2⟩
  · rintro ⟨h1, h2⟩
    have h3 : V 5 t = p := by rw [e5]; exact h1
    exact ⟨h3, by rw [h.2.2.2.2 t h3]; exact h2⟩
theorem av_al.op {p : Nat} {V U : av_V} (h : av_al p V U) : ∀ n, av_op V p n = av_op U p n
  | 0 => rfl
  | n + 1 => by
    rw [av_op, av_op, av_al.op h n]
    cases av_op U p n with
    | none =>
      dsimp only
      by_cases c : V 5 n = p ∧ 0 < V 4 n
      · rw [if_pos c, if_pos ((h.own n).mp c)]
      · rw [if_neg c, if_neg (fun z => c ((h.own n).mpr z))]
    | some t =>
      dsimp only
      rw [h.wo n, h.wo t]
      by_cases c : (V 5 n = p ∧ 0 < V 4 n) ∧ av_wo U p n < av_wo U p t
      · rw [if_pos c, if_pos ⟨(h.own n).mp c.1, c.2⟩]
      · rw [if_neg c, if_neg (fun z => c ⟨(h.own n).mpr z.1, z.2⟩)]
theorem av_al.gn {p : Nat} {V U : av_V} (h : av_al p V U) (t : Nat) : av_gn V t p = av_gn U t p := by
  unfold av_gn av_d
  rw [h.1 0 t (by decide) (by decide) (by decide), h.1 1 t (by decide) (by decide) (by decide), h.1 2 t (by decide) (by decide) (by decide), h.1 3 t (by decide) (by decide) (by decide), h.1 6 p (by decide) (by decide) (by decide)]
theorem av_y_st (V : av_V) (p a i : Nat) (h4 : a ≠ 4) (h7 : a ≠ 7) : av_y V p a i = V a i := by
  unfold av_y
  cases av_op V p (V 8 0) with
  | none => exact av_st_a _ h7 _ _ _
  | some t => exact (av_st_a _ h7 _ _ _).trans (av_st_a _ h4 _ _ _)
theorem av_al.y {p : Nat} {V U : av_V} (h : av_al p V U) : av_al p (av_y V p) (av_y U p) := by
  have ho : av_op V p (V 8 0) = av_op U p (U 8 0) := by rw [h.op, h.2.1]
  refine ⟨fun a i h1 h2 h3 => by rw [av_y_st _ _ _ _ h1 h2, av_y_st _ _ _ _ h1 h2]; exact h.1 a i h1 h2 h3, by rw [av_y8, av_y8]; exact h.2.1, by rw [av_y8, av_y8]; exact h.2.2.1, ?_, fun t ht => ?_⟩
  · unfold av_y
    rw [ho]
    cases av_op U p (U 8 0) with
    | none => dsimp only; rw [av_st_s, av_st_s, h.2.2.2.1]
    | some t => dsimp only; rw [av_st_s, av_st_s, h.2.2.2.1, h.gn t]
  · have ht5 : V 5 t = p := by rw [← av_y_st V p 5 t (by decide) (by decide)]; exact ht
    unfold av_y
    rw [ho]
    cases hu : av_op U p (U 8 0) with
    | none => dsimp only; rw [av_st_a _ (by decide), av_st_a _ (by decide)]; exact h.2.2.2.2 t ht5
    | some u =>
      dsimp only
      rw [av_st_a _ (show (4 : Nat) ≠ 7 by decide), av_st_a _ (show (4 : Nat) ≠ 7 by decide)]
      by_cases e : t = u
      · subst e; rw [av_st_s, av_st_s, h.2.2.2.2 t ht5]
      · rw [av_st_i _ e, av_st_i _ e]; exact h.2.2.2.2 t ht5
theorem av_al.other {p q : Nat} (V : av_V) (h : q ≠ p) : av_al p (av_y V q) V := by
  refine ⟨fun a i h1 h2 h3 => av_y_st _ _ _ _ h1 h2, av_y8 _ _ _, av_y8 _ _ _, ?_, fun t ht => ?_⟩
  · unfold av_y
    cases av_op V q (V 8 0) with
    | none => exact av_st_i _ (Ne.symm h) _ _ _
    | some t => exact (av_st_i _ (Ne.symm h) _ _ _).trans (av_st_a _ (by decide) _ _ _)
  · have ht5 : V 5 t = p := by rw [← av_y_st V q 5 t (by decide) (by decide)]; exact ht
    unfold av_y
    cases ho : av_op V q (V 8 0) with
    | none => exact av_st_a _ (by decide) _ _ _
    | some u =>
      have h5 := (av_op_own ho).1
      exact (av_st_a _ (by decide) _ _ _).trans (av_st_i _ (fun z => h (by rw [← h5, ← z]; exact ht5)) _ _ _)
theorem av_al.year (p : Nat) (V : av_V) (x : Nat) : av_al p (av_st V 8 2 x) V := ⟨fun a i _ _ h3 => av_st_a _ h3 _ _ _, av_st_i _ (by decide) _ _ _, av_st_i _ (by decide) _ _ _, av_st_a _ (by decide) _ _ _, fun _ _ => av_st_a _ (by decide) _ _ _⟩
theorem av_al.pp {p : Nat} {V U : av_V} (h : av_al p V U) : ∀ n, av_al p (av_p V p n) (av_p U p n)
  | 0 => h
  | n + 1 => (av_al.pp h n).y
theorem av_al.pother {p q : Nat} (V : av_V) (h : q ≠ p) : ∀ n, av_al p (av_p V q n) V
  | 0 => av_al.rf p V
  | n + 1 => (av_al.other _ h).tr (av_al.pother V h n)
theorem av_pq_al (V : av_V) (n p : Nat) : ∀ q, av_al p (av_pq V n q) (if p < q then av_p V p n else V)
  | 0 => by rw [if_neg (by omega)]; exact av_al.rf p V
  | q + 1 => by
    have ih := av_pq_al V n p q
    rw [av_pq]
    by_cases e : q = p
    · subst e
      rw [if_neg (by omega)] at ih
      rw [if_pos (by omega)]
      exact ih.pp n
    · have h1 := (av_al.pother (av_pq V n q) e n).tr ih
      by_cases c : p < q
      · rw [if_pos c] at h1; rw [if_pos (by omega)]; exact h1
      · rw [if_neg c] at h1; rw [if_neg (by omega)]; exact h1
theorem av_pa_al {V : av_V} {n p : Nat} (hp : p < V 8 1) : av_al p (av_pa V n) (av_p V p n) := by
  have h := av_pq_al V n p (V 8 1)
  rw [if_pos hp] at h
  exact (av_al.year p _ _).tr h
theorem av_yq_al (V : av_V) (p : Nat) : ∀ q, av_al p (av_yq V q) (if p < q then av_y V p else V)
  | 0 => by rw [if_neg (by omega)]; exact av_al.year p V _
  | q + 1 => by
    have ih := av_yq_al V p q
    rw [av_yq]
    by_cases e : q = p
    · subst e
      rw [if_neg (by omega)] at ih
      rw [if_pos (by omega)]
      exact ih.y
    · have h1 := (av_al.other (av_yq V q) e).tr ih
      by_cases c : p < q
      · rw [if_pos c] at h1; rw [if_pos (by omega)]; exact h1
      · rw [if_neg c] at h1; rw [if_neg (by omega)]; exact h1
theorem av_yq8 (V : av_V) (j : Nat) : ∀ q, av_yq V q 8 j = if j = 2 then V 8 2 + 1 else V 8 j
  | 0 => by
    rw [av_yq]
    by_cases e : j = 2
    · subst e; rw [av_st_s, if_pos rfl]
    · rw [av_st_i _ e, if_neg e]
  | q + 1 => by rw [av_yq, av_y8]; exact av_yq8 V j q
theorem av_ys8 (V : av_V) (j : Nat) : ∀ n, av_ys V n 8 j = if j = 2 then V 8 2 + n else V 8 j
  | 0 => by
    by_cases e : j = 2
    · subst e; rw [if_pos rfl]; rfl
    · rw [if_neg e]; rfl
  | n + 1 => by
    rw [av_ys, av_ye, av_yq8]
    by_cases e : j = 2
    · rw [if_pos e, if_pos e, av_ys8 V 2 n, if_pos rfl]; omega
    · rw [if_neg e, if_neg e, av_ys8 V j n, if_neg e]
theorem av_ys_al {V : av_V} {p : Nat} (hp : p < V 8 1) : ∀ n, av_al p (av_ys V n) (av_p V p n)
  | 0 => av_al.rf p V
  | n + 1 => by
    have ih := av_ys_al hp n
    have h := av_yq_al (av_ys V n) p (av_ys V n 8 1)
    rw [if_pos (by rw [av_ys8, if_neg (by decide)]; exact hp)] at h
    exact h.tr ih.y
/-- nobody beyond: what isn't anyone's stays -/
theorem av_y_out {V : av_V} {q : Nat} : (∀ p, p ≠ q → av_y V q 7 p = V 7 p) ∧ ∀ t, V 5 t ≠ q → av_y V q 4 t = V 4 t := by
  refine ⟨fun p hp => (av_al.other V (Ne.symm hp)).2.2.2.1, fun t ht => ?_⟩
  have h := (av_al.other (p := V 5 t) V (Ne.symm ht)).2.2.2.2 t (by rw [av_y_st _ _ _ _ (by decide) (by decide)])
  exact h
theorem av_p_st (V : av_V) (p a i : Nat) (h4 : a ≠ 4) (h7 : a ≠ 7) : ∀ n, av_p V p n a i = V a i
  | 0 => rfl
  | n + 1 => (av_y_st _ _ _ _ h4 h7).trans (av_p_st V p a i h4 h7 n)
theorem av_p_out {V : av_V} {q : Nat} : ∀ n, (∀ p, p ≠ q → av_p V q n 7 p = V 7 p) ∧ ∀ t, V 5 t ≠ q → av_p V q n 4 t = V 4 t
  | 0 => ⟨fun _ _ => rfl, fun _ _ => rfl⟩
  | n + 1 => ⟨fun p hp => (av_y_out.1 p hp).trans ((av_p_out n).1 p hp), fun t ht => (av_y_out.2 t (by rw [av_p_st _ _ _ _ (by decide) (by decide)]; exact ht)).trans ((av_p_out n).2 t ht)⟩
theorem av_pq_st (V : av_V) (n a i : Nat) (h4 : a ≠ 4) (h7 : a ≠ 7) : ∀ q, av_pq V n q a i = V a i
  | 0 => rfl
  | q + 1 => (av_p_st _ _ _ _ h4 h7 n).trans (av_pq_st V n a i h4 h7 q)
theorem av_pq_out {V : av_V} {n : Nat} : ∀ q, (∀ p, q ≤ p → av_pq V n q 7 p = V 7 p) ∧ ∀ t, q ≤ V 5 t → av_pq V n q 4 t = V 4 t
  | 0 => ⟨fun _ _ => rfl, fun _ _ => rfl⟩
  | q + 1 => ⟨fun p hp => ((av_p_out n).1 p (by omega)).trans ((av_pq_out q).1 p (by omega)), fun t ht => ((av_p_out n).2 t (by rw [av_pq_st _ _ _ _ (by decide) (by decide)]; omega)).trans ((av_pq_out q).2 t (by omega))⟩
theorem av_yq_st (V : av_V) (a i : Nat) (h4 : a ≠ 4) (h7 : a ≠ 7) (h8 : a ≠ 8) : ∀ q, av_yq V q a i = V a i
  | 0 => av_st_a _ h8 _ _ _
  | q + 1 => (av_y_st _ _ _ _ h4 h7).trans (av_yq_st V a i h4 h7 h8 q)
theorem av_yq_out {V : av_V} : ∀ q, (∀ p, q ≤ p → av_yq V q 7 p = V 7 p) ∧ ∀ t, q ≤ V 5 t → av_yq V q 4 t = V 4 t
  | 0 => ⟨fun _ _ => av_st_a _ (by decide) _ _ _, fun _ _ => av_st_a _ (by decide) _ _ _⟩
  | q + 1 => ⟨fun p hp => (av_y_out.1 p (by omega)).trans ((av_yq_out q).1 p (by omega)), fun t ht => (av_y_out.2 t (by rw [av_yq_st _ _ _ (by decide) (by decide) (by decide)]; omega)).trans ((av_yq_out q).2 t (by omega))⟩
theorem av_ys_st (V : av_V) (a i : Nat) (h4 : a ≠ 4) (h7 : a ≠ 7) (h8 : a ≠ 8) : ∀ n, av_ys V n a i = V a i
  | 0 => rfl
  | n + 1 => (av_yq_st _ _ _ h4 h7 h8 _).trans (av_ys_st V a i h4 h7 h8 n)
theorem av_ys_out {V : av_V} : ∀ n, (∀ p, V 8 1 ≤ p → av_ys V n 7 p = V 7 p) ∧ ∀ t, V 8 1 ≤ V 5 t → av_ys V n 4 t = V 4 t
  | 0 => ⟨fun _ _ => rfl, fun _ _ => rfl⟩
  | n + 1 => by
    have e : av_ys V n 8 1 = V 8 1 := by rw [av_ys8, if_neg (by decide)]
    exact ⟨fun p hp => ((av_yq_out _).1 p (by rw [e]; exact hp)).trans ((av_ys_out n).1 p hp), fun t ht => ((av_yq_out _).2 t (by rw [e, av_ys_st _ _ _ (by decide) (by decide) (by decide)]; exact ht)).trans ((av_ys_out n).2 t ht)⟩
theorem av_pa_ys (V : av_V) (n : Nat) : av_pa V n = av_ys V n := by
  funext a i
  by_cases h8 : a = 8
  · subst h8
    rw [av_ys8, av_pa]
    by_cases e : i = 2
    · subst e; rw [av_st_s, if_pos rfl]
    · rw [av_st_i _ e, if_neg e, av_pq_st _ _ _ _ (by decide) (by decide)]
  by_cases h4 : a = 4
  · subst h4
    by_cases c : V 5 i < V 8 1
    · have g1 := (av_pa_al (n := n) c).2.2.2.2 i (by rw [av_pa, av_st_a _ (by decide), av_pq_st _ _ _ _ (by decide) (by decide)])
      have g2 := (av_ys_al c n).2.2.2.2 i (by rw [av_ys_st _ _ _ (by decide) (by decide) (by decide)])
      rw [g1, g2]
    · rw [av_pa, av_st_a _ (by decide), (av_pq_out _).2 i (by omega), (av_ys_out n).2 i (by omega)]
  by_cases h7 : a = 7
  · subst h7
    by_cases c : i < V 8 1
    · rw [(av_pa_al (n := n) c).2.2.2.1, (av_ys_al c n).2.2.2.1]
    · rw [av_pa, av_st_a _ (by decide), (av_pq_out _).1 i (by omega), (av_ys_out n).1 i (by omega)]
  rw [av_pa, av_st_a _ h8, av_pq_st _ _ _ _ h4 h7, av_ys_st _ _ _ h4 h7 h8]
