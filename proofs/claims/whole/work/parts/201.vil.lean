theorem pv_off : ∀ a, a < 6 → ∀ c, c < 6 → f_X7_off (nI a) (nI c) = nI (av_off a c) := by decide +kernel
theorem pv_canOpen {b : Nat} {σ : lb_Mem} {V : av_V} (h : av_C b σ V) (hw : av_W V) {p t : Nat} (hp : p < 5) (ht : t < 8) : f_X7_canOpen σ b (nI p) (nI t) = some (if V 5 t = p ∧ 0 < V 4 t then 1 else 0) := by
  have h1 := hw.2.2.1 t ht
  unfold f_X7_canOpen
  simp (disch := omega) only [lb_k0, lb_k1, lb_k2, lb_k3, lb_k4, lb_k5, lb_k6, lb_k7, lb_k8, lb_k9, lb_k10, lb_k11, lb_k12, lb_k13, lb_k14, lb_k15, lb_k16, lb_k19, lb_k20, lb_k30, lb_k31, lb_k48, lb_k51, lb_k55, lb_k59, lb_k60, lb_k61, lb_k63, lb_k96, lb_k98, lb_k99, lb_k100, lb_k102, lb_k103, lb_k104, lb_k106, lb_k107, lb_k108, lb_k112, lb_k115, lb_k116, lb_k121, lb_k255, lb_k256, lb_k999, lb_ixN, lb_chkT, lb_letS, lb_bndS, lb_cl, lb_le, lb_lt, lb_eq, lb_ad1, lb_sb1, lb_ml1, h.r4, h.r5]
  by_cases c1 : V 5 t = p
  · by_cases c2 : V 4 t ≤ 0
    · simp [c1, c2, show ¬ 0 < V 4 t by omega]
    · simp [c1, c2, show 0 < V 4 t by omega]
  · simp [c1]
def av_ls (V : av_V) (p : Nat) : Option Nat → Int32
  | none => nI 6
  | some t => nI (av_wo V p t)
theorem pv_opened {b : Nat} {σ : lb_Mem} {V : av_V} (h : av_C b σ V) (hw : av_W V) {p : Nat} (hp : p < 5) : f_X7_opened σ b (nI p) = some (av_enc (av_op V p (V 8 0))) := by
  unfold f_X7_opened
  refine lb_loop (fun n i => f_X7_opened_9 σ b n (nI p) (av_enc (av_op V p i)) (av_ls V p (av_op V p i)) (nI i)) (V 8 0) lb_N _ (by have := hw.1; rw [lb_N300]; omega) (fun n i hi => ?_) (fun n => ?_)
  · have hi8 : i < 8 := by have := hw.1; omega
    have h1 := hw.2.2.1 i hi8
    have h2 := hw.2.2.2.2 p hp
    have hnp := hw.1
    show f_X7_opened_9 σ b (n + 1) _ _ _ _ = f_X7_opened_9 σ b n _ _ _ _
    rw [f_X7_opened_9, h.np, pv_canOpen h hw hp hi8]
    simp (disch := omega) only [lb_k0, lb_k1, lb_k2, lb_k3, lb_k4, lb_k5, lb_k6, lb_k7, lb_k8, lb_k9, lb_k10, lb_k11, lb_k12, lb_k13, lb_k14, lb_k15, lb_k16, lb_k19, lb_k20, lb_k30, lb_k31, lb_k48, lb_k51, lb_k55, lb_k59, lb_k60, lb_k61, lb_k63, lb_k96, lb_k98, lb_k99, lb_k100, lb_k102, lb_k103, lb_k104, lb_k106, lb_k107, lb_k108, lb_k112, lb_k115, lb_k116, lb_k121, lb_k255, lb_k256, lb_k999, lb_ixN, lb_chkT, lb_letS, lb_bndS, lb_cl, lb_le, lb_lt, lb_eq, lb_ad1, lb_sb1, lb_ml1, h.r3, h.r6]
    rw [if_neg (by omega)]
    by_cases c1 : V 5 i = p ∧ 0 < V 4 i
    · rw [if_pos c1, if_neg (by decide)]
      have ew : (if V 3 i = 6 then f_X7_opened_60 σ b (fun x1 x2 x3 x4 => f_X7_opened_9 σ b n x1 x2 x3 x4) (nI p) (av_enc (av_op V p i)) (av_ls V p (av_op V p i)) (nI i) (nI 2) else f_X7_opened_60 σ b (fun x1 x2 x3 x4 => f_X7_opened_9 σ b n x1 x2 x3 x4) (nI p) (av_enc (av_op V p i)) (av_ls V p (av_op V p i)) (nI i) (f_X7_off (nI (V 3 i)) (nI (V 6 p)))) = f_X7_opened_60 σ b (fun x1 x2 x3 x4 => f_X7_opened_9 σ b n x1 x2 x3 x4) (nI p) (av_enc (av_op V p i)) (av_ls V p (av_op V p i)) (nI i) (nI (av_wo V p i)) := by
        unfold av_wo
        by_cases c2 : V 3 i = 6
        · rw [if_pos c2, if_pos c2]
        · rw [if_neg c2, if_neg c2, pv_off _ (by omega) _ (by omega)]
      rw [ew, f_X7_opened_60, av_op]
      have hwo := av_wo_le hw hp hi8
      cases ho : av_op V p i with
      | none =>
        simp (disch := omega) only [lb_k0, lb_k1, lb_k2, lb_k3, lb_k4, lb_k5, lb_k6, lb_k7, lb_k8, lb_k9, lb_k10, lb_k11, lb_k12, lb_k13, lb_k14, lb_k15, lb_k16, lb_k19, lb_k20, lb_k30, lb_k31, lb_k48, lb_k51, lb_k55, lb_k59, lb_k60, lb_k61, lb_k63, lb_k96, lb_k98, lb_k99, lb_k100, lb_k102, lb_k103, lb_k104, lb_k106, lb_k107, lb_k108, lb_k112, lb_k115, lb_k116, lb_k121, lb_k255, lb_k256, lb_k999, lb_ixN, lb_chkT, lb_letS, lb_bndS, lb_cl, lb_le, lb_lt, lb_eq, lb_ad1, lb_sb1, lb_ml1, av_ls, av_enc]
        rw [if_neg (by omega), if_pos c1]
      | some t =>
        have ht := av_op_lt ho
        have hwt := av_wo_le hw hp (show t < 8 by omega)
        simp (disch := omega) only [lb_k0, lb_k1, lb_k2, lb_k3, lb_k4, lb_k5, lb_k6, lb_k7, lb_k8, lb_k9, lb_k10, lb_k11, lb_k12, lb_k13, lb_k14, lb_k15, lb_k16, lb_k19, lb_k20, lb_k30, lb_k31, lb_k48, lb_k51, lb_k55, lb_k59, lb_k60, lb_k61, lb_k63, lb_k96, lb_k98, lb_k99, lb_k100, lb_k102, lb_k103, lb_k104, lb_k106, lb_k107, lb_k108, lb_k112, lb_k115, lb_k116, lb_k121, lb_k255, lb_k256, lb_k999, lb_ixN, lb_chkT, lb_letS, lb_bndS, lb_cl, lb_le, lb_lt, lb_eq, lb_ad1, lb_sb1, lb_ml1, av_ls, av_enc]
        by_cases c3 : av_wo V p t ≤ av_wo V p i
        · rw [if_pos c3, if_neg (by omega)]
        · rw [if_neg c3, if_pos ⟨c1, by omega⟩]
    · rw [if_neg c1, if_pos rfl, av_op]
      cases ho : av_op V p i with
      | none => dsimp only; rw [if_neg c1]
      | some t => dsimp only; rw [if_neg (fun z => c1 z.1)]
  · show f_X7_opened_9 σ b (n + 1) _ _ _ _ = _
    rw [f_X7_opened_9, h.np]
    have hnp := hw.1
    simp (disch := omega) only [lb_k0, lb_k1, lb_k2, lb_k3, lb_k4, lb_k5, lb_k6, lb_k7, lb_k8, lb_k9, lb_k10, lb_k11, lb_k12, lb_k13, lb_k14, lb_k15, lb_k16, lb_k19, lb_k20, lb_k30, lb_k31, lb_k48, lb_k51, lb_k55, lb_k59, lb_k60, lb_k61, lb_k63, lb_k96, lb_k98, lb_k99, lb_k100, lb_k102, lb_k103, lb_k104, lb_k106, lb_k107, lb_k108, lb_k112, lb_k115, lb_k116, lb_k121, lb_k255, lb_k256, lb_k999, lb_ixN, lb_chkT, lb_letS, lb_bndS, lb_cl, lb_le, lb_lt, lb_eq, lb_ad1, lb_sb1, lb_ml1]
    rw [if_pos (by omega)]
theorem pv_spoon : ∀ k, k < 6 → ∀ f, f < 10 → ∀ d, d < 4 → ∀ e, e < 4 → lb_spoon (nI k) (nI f) (nI d) (nI e) = Int32.ofInt (av_g k f d e) := by decide +kernel
theorem av_d_le {V : av_V} {t : Nat} (hw : av_W V) (ht : t < 8) : av_d V t ≤ 3 := by
  unfold av_d
  have h1 := hw.2.2.1 t ht
  split
  · omega
  · exact av_off_le (by omega) (by omega)
theorem pv_gained {b : Nat} {σ : lb_Mem} {V : av_V} (h : av_C b σ V) (hw : av_W V) {p t : Nat} (hp : p < 5) (ht : t < 8) : f_X7_gained σ b (nI t) (nI p) = some (Int32.ofInt (av_gn V t p)) := by
  have h1 := hw.2.2.1 t ht
  have h2 := hw.2.2.2.2 p hp
  have hd := av_d_le hw ht
  have he := av_off_le (show V 2 t < 6 by omega) (show V 6 p < 6 by omega)
  have key : f_X7_gained_30 σ b (nI t) (nI p) (nI (av_d V t)) = some (Int32.ofInt (av_gn V t p)) := by
    unfold f_X7_gained_30
    simp (disch := omega) only [lb_k0, lb_k1, lb_k2, lb_k3, lb_k4, lb_k5, lb_k6, lb_k7, lb_k8, lb_k9, lb_k10, lb_k11, lb_k12, lb_k13, lb_k14, lb_k15, lb_k16, lb_k19, lb_k20, lb_k30, lb_k31, lb_k48, lb_k51, lb_k55, lb_k59, lb_k60, lb_k61, lb_k63, lb_k96, lb_k98, lb_k99, lb_k100, lb_k102, lb_k103, lb_k104, lb_k106, lb_k107, lb_k108, lb_k112, lb_k115, lb_k116, lb_k121, lb_k255, lb_k256, lb_k999, lb_ixN, lb_chkT, lb_letS, lb_bndS, lb_cl, lb_le, lb_lt, lb_eq, lb_ad1, lb_sb1, lb_ml1, h.r0, h.r1, h.r2, h.r6]
    rw [pv_off _ (by omega) _ (by omega), pv_spoon _ (by omega) _ (by omega) _ (by omega) _ (by omega)]
    rfl
  unfold f_X7_gained
  simp (disch := omega) only [lb_k0, lb_k1, lb_k2, lb_k3, lb_k4, lb_k5, lb_k6, lb_k7, lb_k8, lb_k9, lb_k10, lb_k11, lb_k12, lb_k13, lb_k14, lb_k15, lb_k16, lb_k19, lb_k20, lb_k30, lb_k31, lb_k48, lb_k51, lb_k55, lb_k59, lb_k60, lb_k61, lb_k63, lb_k96, lb_k98, lb_k99, lb_k100, lb_k102, lb_k103, lb_k104, lb_k106, lb_k107, lb_k108, lb_k112, lb_k115, lb_k116, lb_k121, lb_k255, lb_k256, lb_k999, lb_ixN, lb_chkT, lb_letS, lb_bndS, lb_cl, lb_le, lb_lt, lb_eq, lb_ad1, lb_sb1, lb_ml1, h.r2, h.r3]
  rw [← key]
  unfold av_d
  by_cases c : V 3 t = 6
  · rw [if_pos c, if_pos c]
  · rw [if_neg c, if_neg c, pv_off _ (by omega) _ (by omega)]
