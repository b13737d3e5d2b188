theorem lb_cpy_s (σ : lb_Mem) (k0 k1 n : Nat) : lb_cpy σ k0 k1 n k1 = va_cpy (σ k0) (σ k1) 0 0 n := if_pos rfl
theorem lb_cpy_o {σ : lb_Mem} {k0 k1 n k : Nat} (h : k ≠ k1) : lb_cpy σ k0 k1 n k = σ k := if_neg h
theorem lb_sto_s (σ : lb_Mem) (k i : Nat) (v : Int32) : lb_sto σ k i v k i = v := by unfold lb_sto lb_setc upd; rw [if_pos rfl, if_pos rfl]
theorem lb_sto_o {σ : lb_Mem} {k k' i : Nat} {v : Int32} (h : k' ≠ k) : lb_sto σ k i v k' = σ k' := if_neg h
theorem lb_sto_i {σ : lb_Mem} {k i i' : Nat} {v : Int32} (h : i' ≠ i) : lb_sto σ k i v k i' = σ k i' := by unfold lb_sto lb_setc upd; rw [if_pos rfl, if_neg h]
def av_fr (b : Nat) (σ σ' : lb_Mem) : Prop := ∀ k, (k < b ∨ b + 15 < k) → σ' k = σ k
theorem av_fr.rf (b : Nat) (σ : lb_Mem) : av_fr b σ σ := fun _ _ => rfl
theorem av_fr.tr {b : Nat} {σ σ1 σ2 : lb_Mem} (h1 : av_fr b σ σ1) (h2 : av_fr b σ1 σ2) : av_fr b σ σ2 := fun k hk => (h2 k hk).trans (h1 k hk)
theorem av_fr.sto {b k i : Nat} {v : Int32} {σ : lb_Mem} (h1 : b ≤ k) (h2 : k ≤ b + 15) : av_fr b σ (lb_sto σ k i v) := fun k' hk => lb_sto_o (by omega)
theorem av_C.cong {b : Nat} {σ σ' : lb_Mem} {V : av_V} (h : av_C b σ V) (e : ∀ k, b ≤ k → k ≤ b + 15 → σ' k = σ k) : av_C b σ' V := ⟨fun a t ha ht => by rw [e _ (by omega) (by omega)]; exact h.1 a t ha ht, fun j hj => by rw [e _ (by omega) (by omega)]; exact h.2 j hj⟩
theorem av_C.set {b : Nat} {σ : lb_Mem} {V : av_V} (h : av_C b σ V) {a t : Nat} (x : Nat) (ha : a < 8) (ht : t < av_ln a) : av_C b (lb_sto σ (b + 8 + a) t (nI x)) (av_st V a t x) := by
  refine ⟨fun a' t' ha' ht' => ?_, fun j hj => ?_⟩
  · by_cases e1 : a' = a
    · subst e1
      by_cases e2 : t' = t
      · subst e2; rw [lb_sto_s, av_st_s]
      · rw [lb_sto_i e2, av_st_i _ e2]; exact h.1 a' t' ha' ht'
    · rw [lb_sto_o (by omega), av_st_a _ e1]; exact h.1 a' t' ha' ht'
  · rw [lb_sto_o (by omega), av_st_a _ (by omega)]; exact h.2 j hj
theorem av_C.set8 {b : Nat} {σ : lb_Mem} {V : av_V} (h : av_C b σ V) {j : Nat} (x : Nat) (hj : j < 3) : av_C b (lb_sto σ b (9 + j) (nI x)) (av_st V 8 j x) := by
  refine ⟨fun a' t' ha' ht' => ?_, fun j' hj' => ?_⟩
  · rw [lb_sto_o (by omega), av_st_a _ (by omega)]; exact h.1 a' t' ha' ht'
  · by_cases e : j' = j
    · subst e; rw [lb_sto_s, av_st_s]
    · rw [lb_sto_i (by omega), av_st_i _ e]; exact h.2 j' hj'
def av_held (x : Int) : Nat := (max 0 (min 99 x)).toNat
def av_y (V : av_V) (p : Nat) : av_V := match av_op V p (V 8 0) with
  | none => av_st V 7 p (av_held ((V 7 p : Int) + (-1)))
  | some t => av_st (av_st V 4 t (V 4 t - 1)) 7 p (av_held ((V 7 p : Int) + av_gn V t p))
def av_p (V : av_V) (p : Nat) : Nat → av_V
  | 0 => V
  | n + 1 => av_y (av_p V p n) p
theorem av_held_le (x : Int) : av_held x ≤ 99 := by unfold av_held; omega
theorem av_op_own {V : av_V} {p : Nat} : ∀ {n t : Nat}, av_op V p n = some t → V 5 t = p ∧ 0 < V 4 t
  | 0, t, h => by cases h
  | n + 1, t, h => by
    rw [av_op] at h
    cases ho : av_op V p n with
    | none =>
      rw [ho] at h
      dsimp only at h
      by_cases hc : V 5 n = p ∧ 0 < V 4 n
      · rw [if_pos hc] at h; cases h; exact hc
      · rw [if_neg hc] at h; cases h
    | some u =>
      rw [ho] at h
      have hu := av_op_own ho
      dsimp only at h
      by_cases hc : (V 5 n = p ∧ 0 < V 4 n) ∧ av_wo V p n < av_wo V p u
      · rw [if_pos hc] at h; cases h; exact hc.1
      · rw [if_neg hc] at h; cases h; exact hu
/-- a row set to what may stand there -/
theorem av_W.set {V : av_V} (h : av_W V) {a i x : Nat} (hx : (a = 0 ∧ x < 6) ∨ (a = 1 ∧ x ≤ 9) ∨ (a = 2 ∧ x < 6) ∨ (a = 3 ∧ x ≤ 6) ∨ (a = 4 ∧ x ≤ 9) ∨ (a = 5 ∧ x < V 8 1) ∨ (a = 6 ∧ x < 6) ∨ (a = 7 ∧ x ≤ 99)) : av_W (av_st V a i x) := by
  obtain ⟨h0, h1, h2, h3, h4⟩ := h
  have e8 : ∀ j, av_st V a i x 8 j = V 8 j := fun j => av_st_a _ (by omega) _ _ _
  refine ⟨by rw [e8]; exact h0, by rw [e8]; exact h1, fun t ht => ?_, fun t ht => ?_, fun p hp => ?_⟩
  · have := h2 t ht
    unfold av_st
    refine ⟨?_, ?_, ?_, ?_, ?_, ?_⟩ <;> split <;> omega
  · rw [e8] at ht ⊢
    have := h3 t ht
    unfold av_st
    split <;> omega
  · have := h4 p hp
    unfold av_st
    refine ⟨?_, ?_⟩ <;> split <;> omega
theorem av_W.y {V : av_V} (h : av_W V) (p : Nat) : av_W (av_y V p) := by
  unfold av_y
  have g := h
  cases ho : av_op V p (V 8 0) with
  | none => exact h.set (by have := av_held_le ((V 7 p : Int) + (-1)); omega)
  | some t =>
    have ht := av_op_lt ho
    have h0 := h.1
    have h2 := h.2.2.1 t (by omega)
    exact (h.set (a := 4) (by omega)).set (by have := av_held_le ((V 7 p : Int) + av_gn V t p); omega)
theorem av_y8 (V : av_V) (p j : Nat) : av_y V p 8 j = V 8 j := by
  unfold av_y
  cases av_op V p (V 8 0) with
  | none => exact av_st_a _ (by decide) _ _ _
  | some t => exact (av_st_a _ (by decide) _ _ _).trans (av_st_a _ (by decide) _ _ _)
theorem av_W.p {V : av_V} (h : av_W V) (p : Nat) : ∀ n, av_W (av_p V p n)
  | 0 => h
  | n + 1 => (av_W.p h p n).y p
theorem av_p8 (V : av_V) (p j : Nat) : ∀ n, av_p V p n 8 j = V 8 j
  | 0 => rfl
  | n + 1 => (av_y8 _ p j).trans (av_p8 V p j n)
theorem av_g_in : ∀ k, k < 6 → ∀ f, f < 10 → ∀ d, d < 4 → ∀ e, e < 4 → -10 ≤ av_g k f d e ∧ av_g k f d e ≤ 4 := by decide +kernel
theorem av_gn_in {V : av_V} {p t : Nat} (hw : av_W V) (hp : p < 5) (ht : t < 8) : -10 ≤ av_gn V t p ∧ av_gn V t p ≤ 4 := by
  have h1 := hw.2.2.1 t ht
  have h2 := hw.2.2.2.2 p hp
  have hd := av_d_le hw ht
  have he := av_off_le (show V 2 t < 6 by omega) (show V 6 p < 6 by omega)
  exact av_g_in _ (by omega) _ (by omega) _ (by omega) _ (by omega)
theorem pv_holdD : ∀ g, g < 100 → ∀ z : Nat, z < 15 → (if (0 : Int32) < (if (nI g + Int32.ofInt ((z : Int) - 10)) < (99 : Int32) then (nI g + Int32.ofInt ((z : Int) - 10)) else (99 : Int32)) then (if (nI g + Int32.ofInt ((z : Int) - 10)) < (99 : Int32) then (nI g + Int32.ofInt ((z : Int) - 10)) else (99 : Int32)) else (0 : Int32)) = nI (av_held ((g : Int) + ((z : Int) - 10))) := by decide +kernel
theorem pv_hold {g : Nat} {z : Int} (hg : g ≤ 99) (h1 : -10 ≤ z) (h2 : z ≤ 4) : (if (0 : Int32) < (if (nI g + Int32.ofInt z) < (99 : Int32) then (nI g + Int32.ofInt z) else (99 : Int32)) then (if (nI g + Int32.ofInt z) < (99 : Int32) then (nI g + Int32.ofInt z) else (99 : Int32)) else (0 : Int32)) = nI (av_held ((g : Int) + z)) := by
  have h := pv_holdD g (by omega) (z + 10).toNat (by omega)
  rw [show (((z + 10).toNat : Nat) : Int) - 10 = z by omega] at h
  exact h
theorem pv_44 {b n : Nat} {σ : lb_Mem} {V : av_V} (h : av_C b σ V) (hw : av_W V) {p : Nat} (hp : p < 5) {z : Int} (h1 : -10 ≤ z) (h2 : z ≤ 4) (kc : Int32 → Int32 → Int32 → lb_Mem → Option lb_Mem) (x2 : Int32) (i : Nat) : f_X7_passFor_44 b kc (nI p) x2 (nI i) (Int32.ofInt z) σ = kc (nI p) x2 (nI (i + 1)) (lb_sto σ (b + 8 + 7) p (nI (av_held ((V 7 p : Int) + z)))) := by
  have h3 := hw.2.2.2.2 p hp
  unfold f_X7_passFor_44
  rw [lb_ixN hp (by decide), lb_chkT, lb_chkT, lb_letS, lb_cl (by omega), h.r7 p hp, pv_hold (by omega) h1 h2, show (1 : Int32) = nI 1 from rfl, lb_ad1]
theorem pv_yearC {b : Nat} {σ : lb_Mem} {V : av_V} (h : av_C b σ V) (hw : av_W V) {p m i : Nat} (hp : p < 5) (hi : i < m) (hm : m ≤ 60) (n : Nat) : ∃ σ', av_C b σ' (av_y V p) ∧ av_fr b σ σ' ∧ f_X7_passFor_2 b (n + 1) (nI p) (nI m) (nI i) σ = f_X7_passFor_2 b n (nI p) (nI m) (nI (i + 1)) σ' := by
  rw [f_X7_passFor_2, pv_opened h hw hp]
  simp (disch := omega) only [lb_le, lb_bndS]
  rw [if_neg (by omega)]
  unfold av_y
  cases ho : av_op V p (V 8 0) with
  | none =>
    dsimp only
    rw [av_enc_n, if_pos rfl, show (-1 : Int32) = Int32.ofInt (-1) from rfl, pv_44 (n := 0) h hw hp (by decide) (by decide)]
    exact ⟨_, h.set _ (by decide) hp, av_fr.sto (by omega) (by omega), rfl⟩
  | some t =>
    have ht := av_op_lt ho
    have h0 := hw.1
    have h8 : t < 8 := by omega
    have hf := av_op_own ho
    have h2 := hw.2.2.1 t h8
    obtain ⟨g1, g2⟩ := av_gn_in hw hp h8
    dsimp only
    rw [av_enc_s, if_neg (lb_ne9 h8), pv_gained h hw hp h8, lb_bndS, lb_ixN h8 (by decide), lb_chkT, lb_chkT, lb_letS, lb_cl (by omega), h.r4 t h8, show (1 : Int32) = nI 1 from rfl, lb_sb1 (by omega)]
    have hs := h.set (a := 4) (t := t) (V 4 t - 1) (by decide) h8
    have hw4 : av_W (av_st V 4 t (V 4 t - 1)) := hw.set (by omega)
    rw [pv_44 (n := 0) hs hw4 hp g1 g2]
    refine ⟨_, ?_, (av_fr.sto (by omega) (by omega)).tr (av_fr.sto (by omega) (by omega)), rfl⟩
    rw [av_st_a V (show 7 ≠ 4 by decide)]
    exact hs.set _ (by decide) hp
theorem pv_passFor {b : Nat} {σ : lb_Mem} {V : av_V} (h : av_C b σ V) (hw : av_W V) {p m : Nat} (hp : p < 5) (hm : m ≤ 60) : ∃ σ', f_X7_passFor b (nI p) (nI m) σ = some σ' ∧ av_C b σ' (av_p V p m) ∧ av_fr b σ σ' := by
  obtain ⟨n, s, ⟨e1, h1, h2⟩, e⟩ := lb_loopR (fun n (s : Int32 × lb_Mem) => f_X7_passFor_2 b n (nI p) (nI m) s.1 s.2) (fun i s => s.1 = nI i ∧ av_C b s.2 (av_p V p i) ∧ av_fr b σ s.2) m lb_N (by rw [lb_N300]; omega)
    (fun n i s hi hI => by
      obtain ⟨e1, h1, h2⟩ := hI
      obtain ⟨x, s⟩ := s
      dsimp only at e1 h1 h2
      subst e1
      obtain ⟨σ', a1, a2, a3⟩ := pv_yearC h1 (hw.p p i) hp hi hm n
      exact ⟨(nI (i + 1), σ'), ⟨rfl, a1, h2.tr a2⟩, a3⟩)
    (nI 0, σ) ⟨rfl, h, av_fr.rf b σ⟩
  obtain ⟨x, s⟩ := s
  dsimp only at e1 h1 h2 e
  subst e1
  refine ⟨s, ?_, h1, h2⟩
  unfold f_X7_passFor
  rw [show (0 : Int32) = nI 0 from rfl, e, f_X7_passFor_2, if_pos (by rw [lb_le (by omega) (by omega)]; omega)]
