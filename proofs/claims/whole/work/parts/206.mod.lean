/-! the reference's rows -/
def av_M (k : Nat) (σ : lb_Mem) (V : av_V) : Prop := (∀ a t, a < 6 → t < 8 → σ k (3 + 6 * t + a) = nI (V a t)) ∧ (∀ a p, a < 2 → p < 5 → σ k (51 + 2 * p + a) = nI (V (6 + a) p)) ∧ ∀ j, j < 3 → σ k j = nI (V 8 j)
def av_fk (k : Nat) (σ σ' : lb_Mem) : Prop := ∀ k', k' ≠ k → σ' k' = σ k'
theorem av_fk.rf (k : Nat) (σ : lb_Mem) : av_fk k σ σ := fun _ _ => rfl
theorem av_fk.tr {k : Nat} {σ σ1 σ2 : lb_Mem} (h1 : av_fk k σ σ1) (h2 : av_fk k σ1 σ2) : av_fk k σ σ2 := fun k' hk => (h2 k' hk).trans (h1 k' hk)
theorem av_fk.sto {k i : Nat} {v : Int32} {σ : lb_Mem} : av_fk k σ (lb_sto σ k i v) := fun k' hk => lb_sto_o hk
section MR
variable {k : Nat} {σ : lb_Mem} {V : av_V}
theorem av_M.t0 (h : av_M k σ V) : ∀ t, t < 8 → σ k (3 + 6 * t + 0) = nI (V 0 t) := fun t ht => h.1 0 t (by decide) ht
theorem av_M.t1 (h : av_M k σ V) : ∀ t, t < 8 → σ k (3 + 6 * t + 1) = nI (V 1 t) := fun t ht => h.1 1 t (by decide) ht
theorem av_M.t2 (h : av_M k σ V) : ∀ t, t < 8 → σ k (3 + 6 * t + 2) = nI (V 2 t) := fun t ht => h.1 2 t (by decide) ht
theorem av_M.t3 (h : av_M k σ V) : ∀ t, t < 8 → σ k (3 + 6 * t + 3) = nI (V 3 t) := fun t ht => h.1 3 t (by decide) ht
theorem av_M.t4 (h : av_M k σ V) : ∀ t, t < 8 → σ k (3 + 6 * t + 4) = nI (V 4 t) := fun t ht => h.1 4 t (by decide) ht
theorem av_M.t5 (h : av_M k σ V) : ∀ t, t < 8 → σ k (3 + 6 * t + 5) = nI (V 5 t) := fun t ht => h.1 5 t (by decide) ht
theorem av_M.p0 (h : av_M k σ V) : ∀ p, p < 5 → σ k (51 + 2 * p + 0) = nI (V 6 p) := fun p hp => h.2.1 0 p (by decide) hp
theorem av_M.p1 (h : av_M k σ V) : ∀ p, p < 5 → σ k (51 + 2 * p + 1) = nI (V 7 p) := fun p hp => h.2.1 1 p (by decide) hp
theorem av_M.np (h : av_M k σ V) : σ k 0 = nI (V 8 0) := h.2.2 0 (by decide)
theorem av_M.nn (h : av_M k σ V) : σ k 1 = nI (V 8 1) := h.2.2 1 (by decide)
theorem av_M.yr (h : av_M k σ V) : σ k 2 = nI (V 8 2) := h.2.2 2 (by decide)
theorem av_M.cong {σ' : lb_Mem} (h : av_M k σ V) (e : σ' k = σ k) : av_M k σ' V := by
  unfold av_M
  rw [e]
  exact h
theorem av_M.setT (h : av_M k σ V) {a t : Nat} (x : Nat) (ha : a < 6) (ht : t < 8) : av_M k (lb_sto σ k (3 + 6 * t + a) (nI x)) (av_st V a t x) := by
  refine ⟨fun a' t' ha' ht' => ?_, fun a' p' ha' hp' => ?_, fun j hj => ?_⟩
  · by_cases e : a' = a ∧ t' = t
    · obtain ⟨rfl, rfl⟩ := e
      rw [lb_sto_s, av_st_s]
    · rw [lb_sto_i (by omega), av_st, if_neg e]; exact h.1 a' t' ha' ht'
  · rw [lb_sto_i (by omega), av_st_a _ (by omega)]; exact h.2.1 a' p' ha' hp'
  · rw [lb_sto_i (by omega), av_st_a _ (by omega)]; exact h.2.2 j hj
theorem av_M.setP (h : av_M k σ V) {a p : Nat} (x : Nat) (ha : a < 2) (hp : p < 5) : av_M k (lb_sto σ k (51 + 2 * p + a) (nI x)) (av_st V (6 + a) p x) := by
  refine ⟨fun a' t' ha' ht' => ?_, fun a' p' ha' hp' => ?_, fun j hj => ?_⟩
  · rw [lb_sto_i (by omega), av_st_a _ (by omega)]; exact h.1 a' t' ha' ht'
  · by_cases e : a' = a ∧ p' = p
    · obtain ⟨rfl, rfl⟩ := e
      rw [lb_sto_s, av_st_s]
    · rw [lb_sto_i (by omega), av_st, if_neg (by omega)]; exact h.2.1 a' p' ha' hp'
  · rw [lb_sto_i (by omega), av_st_a _ (by omega)]; exact h.2.2 j hj
theorem av_M.set8 (h : av_M k σ V) {j : Nat} (x : Nat) (hj : j < 3) : av_M k (lb_sto σ k j (nI x)) (av_st V 8 j x) := by
  refine ⟨fun a' t' ha' ht' => ?_, fun a' p' ha' hp' => ?_, fun j' hj' => ?_⟩
  · rw [lb_sto_i (by omega), av_st_a _ (by omega)]; exact h.1 a' t' ha' ht'
  · rw [lb_sto_i (by omega), av_st_a _ (by omega)]; exact h.2.1 a' p' ha' hp'
  · by_cases e : j' = j
    · subst e; rw [lb_sto_s, av_st_s]
    · rw [lb_sto_i e, av_st_i _ e]; exact h.2.2 j' hj'
theorem pm_oT (t a : Nat) : f_X9_ofT (nI t) (nI a) = nI (3 + 6 * t + a) := by
  unfold f_X9_ofT
  rw [lb_k3, lb_k6, lb_ml1, lb_ad1, lb_ad1]
theorem pm_oP (t a : Nat) : f_X9_ofP (nI t) (nI a) = nI (51 + 2 * t + a) := by
  unfold f_X9_ofP
  rw [lb_k51, lb_k2, lb_ml1, lb_ad1, lb_ad1]
theorem pm_off : ∀ a, a < 6 → ∀ c, c < 6 → f_X9_off (nI a) (nI c) = nI (av_off a c) := by decide +kernel
theorem pm_wished (h : av_M k σ V) (hw : av_W V) {p t : Nat} (hp : p < 5) (ht : t < 8) : f_X9_wishedOff σ k (nI t) (nI p) = some (nI (av_wo V p t)) := by
  have h1 := hw.2.2.1 t ht
  have h2 := hw.2.2.2.2 p hp
  unfold f_X9_wishedOff av_wo
  simp (disch := omega) only [lb_k0, lb_k1, lb_k2, lb_k3, lb_k4, lb_k5, lb_k6, lb_k7, lb_k8, lb_k9, lb_k10, lb_k11, lb_k12, lb_k13, lb_k14, lb_k15, lb_k16, lb_k19, lb_k20, lb_k30, lb_k31, lb_k48, lb_k51, lb_k55, lb_k59, lb_k60, lb_k61, lb_k63, lb_k96, lb_k98, lb_k99, lb_k100, lb_k102, lb_k103, lb_k104, lb_k106, lb_k107, lb_k108, lb_k112, lb_k115, lb_k116, lb_k121, lb_k255, lb_k256, lb_k999, lb_ixN, lb_chkT, lb_letS, lb_bndS, lb_cl, lb_le, lb_lt, lb_eq, lb_ad1, lb_sb1, lb_ml1, pm_oT, pm_oP, h.t3, h.p0]
  by_cases c : V 3 t = 6
  · rw [if_pos c, if_pos c]
  · rw [if_neg c, if_neg c, pm_off _ (by omega) _ (by omega)]
theorem pm_opensIn (h : av_M k σ V) (hw : av_W V) {p : Nat} (hp : p < 5) : f_X9_opensIn σ k (nI p) = some (av_enc (av_op V p (V 8 0))) := by
  have hn := hw.1
  unfold f_X9_opensIn
  refine lb_loop (fun n i => f_X9_opensIn_5 σ k n (nI p) (av_enc (av_op V p i)) (nI i)) (V 8 0) lb_N _ (by rw [lb_N300]; omega) (fun n i hi => ?_) (fun n => ?_)
  · have hi8 : i < 8 := by omega
    have h1 := hw.2.2.1 i hi8
    show f_X9_opensIn_5 σ k (n + 1) _ _ _ = _
    rw [f_X9_opensIn_5, pm_wished h hw hp hi8]
    simp (disch := omega) only [lb_k0, lb_k1, lb_k2, lb_k3, lb_k4, lb_k5, lb_k6, lb_k7, lb_k8, lb_k9, lb_k10, lb_k11, lb_k12, lb_k13, lb_k14, lb_k15, lb_k16, lb_k19, lb_k20, lb_k30, lb_k31, lb_k48, lb_k51, lb_k55, lb_k59, lb_k60, lb_k61, lb_k63, lb_k96, lb_k98, lb_k99, lb_k100, lb_k102, lb_k103, lb_k104, lb_k106, lb_k107, lb_k108, lb_k112, lb_k115, lb_k116, lb_k121, lb_k255, lb_k256, lb_k999, lb_ixN, lb_chkT, lb_letS, lb_bndS, lb_cl, lb_le, lb_lt, lb_eq, lb_ad1, lb_sb1, lb_ml1, pm_oT, pm_oP, h.t5, h.t4, h.np]
    rw [if_neg (by omega), av_op]
    by_cases c1 : V 5 i = p
    · rw [if_pos c1]
      by_cases c2 : V 4 i ≤ 0
      · rw [if_pos c2]
        cases ho : av_op V p i with
        | none => dsimp only; rw [if_neg (fun z => by omega)]
        | some t => dsimp only; rw [if_neg (fun z => by omega)]
      · rw [if_neg c2]
        cases ho : av_op V p i with
        | none => dsimp only; rw [av_enc_n, if_pos (by decide), if_pos ⟨c1, by omega⟩]; rfl
        | some t =>
          have ht := av_op_lt ho
          have l1 := av_wo_le hw hp hi8
          have l2 := av_wo_le hw hp (show t < 8 by omega)
          dsimp only
          rw [av_enc_s, if_neg (by rw [lb_lt (by omega) (by omega)]; omega), pm_wished h hw hp (show t < 8 by omega), lb_bndS]
          simp (disch := omega) only [lb_le]
          by_cases c3 : av_wo V p t ≤ av_wo V p i
          · rw [if_pos c3, if_neg (fun z => by omega)]; rfl
          · rw [if_neg c3, if_pos ⟨⟨c1, by omega⟩, by omega⟩]; rfl
    · rw [if_neg c1]
      cases ho : av_op V p i with
      | none => dsimp only; rw [if_neg (fun z => c1 z.1)]
      | some t => dsimp only; rw [if_neg (fun z => c1 z.1.1)]
  · show f_X9_opensIn_5 σ k (n + 1) _ _ _ = _
    rw [f_X9_opensIn_5]
    simp (disch := omega) only [lb_k0, lb_k1, lb_k2, lb_k3, lb_k4, lb_k5, lb_k6, lb_k7, lb_k8, lb_k9, lb_k10, lb_k11, lb_k12, lb_k13, lb_k14, lb_k15, lb_k16, lb_k19, lb_k20, lb_k30, lb_k31, lb_k48, lb_k51, lb_k55, lb_k59, lb_k60, lb_k61, lb_k63, lb_k96, lb_k98, lb_k99, lb_k100, lb_k102, lb_k103, lb_k104, lb_k106, lb_k107, lb_k108, lb_k112, lb_k115, lb_k116, lb_k121, lb_k255, lb_k256, lb_k999, lb_ixN, lb_chkT, lb_letS, lb_bndS, lb_cl, lb_le, lb_lt, lb_eq, lb_ad1, lb_sb1, lb_ml1, h.np]
    rw [if_pos (Nat.le_refl _)]
def lb_mg (k f d e : Int32) : Option Int32 := lb_let ((if d = 0 then (2 : Int32) else -d) + f / (4 : Int32)) (fun v => if k = 1 then some ((2 : Int32) * (if d = 0 then (2 : Int32) else -d)) else if k = 2 then some v else if k = 3 then (if d ≤ (1 : Int32) then some ((2 : Int32) * (if d = 0 then (2 : Int32) else -d)) else some (((2 : Int32) * (if d = 0 then (2 : Int32) else -d)) - (f / (2 : Int32)))) else if k = 4 then (if 0 ≤ v then some v else some (0 : Int32)) else if k = 5 then some ((if d = 0 then (2 : Int32) else -d) - e) else some (if d = 0 then (2 : Int32) else -d))
theorem lb_mgD : ∀ k, k < 6 → ∀ f, f < 10 → ∀ d, d < 4 → ∀ e, e < 4 → lb_mg (nI k) (nI f) (nI d) (nI e) = some (Int32.ofInt (av_g k f d e)) := by decide +kernel
theorem pm_gains (h : av_M k σ V) (hw : av_W V) {p t : Nat} (hp : p < 5) (ht : t < 8) : f_X9_gainsIn σ k (nI t) (nI p) = some (Int32.ofInt (av_gn V t p)) := by
  have h1 := hw.2.2.1 t ht
  have h2 := hw.2.2.2.2 p hp
  have hd := av_d_le hw ht
  have he := av_off_le (show V 2 t < 6 by omega) (show V 6 p < 6 by omega)
  have key : f_X9_gainsIn_33 σ k (nI t) (nI p) (nI (av_d V t)) = some (Int32.ofInt (av_gn V t p)) := by
    have e1 : ∀ y : Int32, f_X9_gainsIn_53 σ k (nI t) (nI p) (nI (av_d V t)) (nI (V 1 t)) y = lb_let (y + nI (V 1 t) / (4 : Int32)) (fun v => if nI (V 0 t) = 1 then some ((2 : Int32) * y) else if nI (V 0 t) = 2 then some v else if nI (V 0 t) = 3 then (if nI (av_d V t) ≤ (1 : Int32) then some ((2 : Int32) * y) else some (((2 : Int32) * y) - (nI (V 1 t) / (2 : Int32)))) else if nI (V 0 t) = 4 then (if 0 ≤ v then some v else some (0 : Int32)) else if nI (V 0 t) = 5 then some (y - nI (av_off (V 2 t) (V 6 p))) else some y) := by
      intro y
      unfold f_X9_gainsIn_53
      rw [show (0 : Int32) = nI 0 from rfl, show f_X9_ofT (nI t) (2 : Int32) = nI (3 + 6 * t + 2) from pm_oT t 2, pm_oT, pm_oP, lb_cl (by omega), lb_cl (by omega), lb_cl (by omega), lb_ixN (by omega) (by decide), lb_ixN (by omega) (by decide), lb_ixN (by omega) (by decide), h.t0 t ht, h.t2 t ht, h.p0 p hp, pm_off _ (by omega) _ (by omega)]
      rfl
    unfold f_X9_gainsIn_33
    rw [show f_X9_ofT (nI t) (1 : Int32) = nI (3 + 6 * t + 1) from pm_oT t 1, lb_ixN (by omega) (by decide), lb_chkT, lb_letS, lb_cl (by omega), h.t1 t ht, e1, e1]
    unfold av_gn
    rw [← lb_mgD _ (by omega) _ (by omega) _ (by omega) _ (by omega), lb_mg]
    by_cases c : nI (av_d V t) = 0
    · simp only [if_pos c]
    · simp only [if_neg c]
  unfold f_X9_gainsIn
  simp (disch := omega) only [lb_k0, lb_k1, lb_k2, lb_k3, lb_k4, lb_k5, lb_k6, lb_k7, lb_k8, lb_k9, lb_k10, lb_k11, lb_k12, lb_k13, lb_k14, lb_k15, lb_k16, lb_k19, lb_k20, lb_k30, lb_k31, lb_k48, lb_k51, lb_k55, lb_k59, lb_k60, lb_k61, lb_k63, lb_k96, lb_k98, lb_k99, lb_k100, lb_k102, lb_k103, lb_k104, lb_k106, lb_k107, lb_k108, lb_k112, lb_k115, lb_k116, lb_k121, lb_k255, lb_k256, lb_k999, lb_ixN, lb_chkT, lb_letS, lb_bndS, lb_cl, lb_le, lb_lt, lb_eq, lb_ad1, lb_sb1, lb_ml1, pm_oT, pm_oP, h.t2, h.t3]
  rw [← key]
  unfold av_d
  by_cases c : V 3 t = 6
  · rw [if_pos c, if_pos c]
  · rw [if_neg c, if_neg c, pm_off _ (by omega) _ (by omega)]
end MR
