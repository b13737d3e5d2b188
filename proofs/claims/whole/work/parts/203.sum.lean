theorem lb_or1 (a b : Nat) : nI a ||| nI b = nI (a ||| b) := by
  apply Int32.toBitVec_inj.1
  show BitVec.ofNat 32 a ||| BitVec.ofNat 32 b = BitVec.ofNat 32 (a ||| b)
  apply BitVec.eq_of_getLsbD_eq
  intro i hi
  simp [hi]
theorem lb_shlD : ∀ t, t < 16 → nI 1 <<< (nI t &&& nI 31) = nI (2 ^ t) := by decide +kernel
theorem lb_shl {t : Nat} (h : t < 16) : nI 1 <<< (nI t &&& nI 31) = nI (2 ^ t) := lb_shlD t h
def av_sm (f : Nat → Nat) : Nat → Nat
  | 0 => 0
  | n + 1 => av_sm f n + f n
def av_ct (P : Nat → Bool) : Nat → Nat
  | 0 => 0
  | n + 1 => if P n = true then av_ct P n + 1 else av_ct P n
def av_bt (P : Nat → Bool) (g : Nat → Nat) : Nat → Nat
  | 0 => 0
  | n + 1 => if P n = true then av_bt P g n ||| 2 ^ g n else av_bt P g n
section CS
variable {b : Nat} {σ : lb_Mem} {V : av_V}
theorem pv_allGrace (h : av_C b σ V) (hw : av_W V) : f_X7_allGrace σ b = some (nI (av_sm (V 7) (V 8 1))) := by
  have hn := hw.2.1
  unfold f_X7_allGrace
  refine lb_loop (fun n i => f_X7_allGrace_4 σ b n (nI (av_sm (V 7) i)) (nI i)) (V 8 1) lb_N _ (by rw [lb_N300]; omega) (fun n i hi => ?_) (fun n => ?_)
  · show f_X7_allGrace_4 σ b (n + 1) _ _ = _
    rw [f_X7_allGrace_4, h.nn]
    simp (disch := omega) only [lb_k0, lb_k1, lb_k2, lb_k3, lb_k4, lb_k5, lb_k6, lb_k7, lb_k8, lb_k9, lb_k10, lb_k11, lb_k12, lb_k13, lb_k14, lb_k15, lb_k16, lb_k19, lb_k20, lb_k30, lb_k31, lb_k48, lb_k51, lb_k55, lb_k59, lb_k60, lb_k61, lb_k63, lb_k96, lb_k98, lb_k99, lb_k100, lb_k102, lb_k103, lb_k104, lb_k106, lb_k107, lb_k108, lb_k112, lb_k115, lb_k116, lb_k121, lb_k255, lb_k256, lb_k999, lb_ixN, lb_chkT, lb_letS, lb_bndS, lb_cl, lb_le, lb_lt, lb_eq, lb_ad1, lb_sb1, lb_ml1, h.r7]
    rw [if_neg (by omega)]; rfl
  · show f_X7_allGrace_4 σ b (n + 1) _ _ = _
    rw [f_X7_allGrace_4, h.nn]
    simp (disch := omega) only [lb_k0, lb_k1, lb_k2, lb_k3, lb_k4, lb_k5, lb_k6, lb_k7, lb_k8, lb_k9, lb_k10, lb_k11, lb_k12, lb_k13, lb_k14, lb_k15, lb_k16, lb_k19, lb_k20, lb_k30, lb_k31, lb_k48, lb_k51, lb_k55, lb_k59, lb_k60, lb_k61, lb_k63, lb_k96, lb_k98, lb_k99, lb_k100, lb_k102, lb_k103, lb_k104, lb_k106, lb_k107, lb_k108, lb_k112, lb_k115, lb_k116, lb_k121, lb_k255, lb_k256, lb_k999, lb_ixN, lb_chkT, lb_letS, lb_bndS, lb_cl, lb_le, lb_lt, lb_eq, lb_ad1, lb_sb1, lb_ml1]
    rw [if_pos (Nat.le_refl _)]
theorem pv_withoutGrace (h : av_C b σ V) (hw : av_W V) : f_X7_withoutGrace σ b = some (nI (av_ct (fun p => decide (V 7 p = 0)) (V 8 1))) := by
  have hn := hw.2.1
  unfold f_X7_withoutGrace
  refine lb_loop (fun n i => f_X7_withoutGrace_4 σ b n (nI (av_ct (fun p => decide (V 7 p = 0)) i)) (nI i)) (V 8 1) lb_N _ (by rw [lb_N300]; omega) (fun n i hi => ?_) (fun n => ?_)
  · show f_X7_withoutGrace_4 σ b (n + 1) _ _ = _
    have h7 := hw.2.2.2.2 i (by omega)
    rw [f_X7_withoutGrace_4, h.nn]
    simp (disch := omega) only [lb_k0, lb_k1, lb_k2, lb_k3, lb_k4, lb_k5, lb_k6, lb_k7, lb_k8, lb_k9, lb_k10, lb_k11, lb_k12, lb_k13, lb_k14, lb_k15, lb_k16, lb_k19, lb_k20, lb_k30, lb_k31, lb_k48, lb_k51, lb_k55, lb_k59, lb_k60, lb_k61, lb_k63, lb_k96, lb_k98, lb_k99, lb_k100, lb_k102, lb_k103, lb_k104, lb_k106, lb_k107, lb_k108, lb_k112, lb_k115, lb_k116, lb_k121, lb_k255, lb_k256, lb_k999, lb_ixN, lb_chkT, lb_letS, lb_bndS, lb_cl, lb_le, lb_lt, lb_eq, lb_ad1, lb_sb1, lb_ml1, h.r7]
    rw [if_neg (by omega), av_ct]
    by_cases c : V 7 i = 0
    · rw [if_pos c, if_pos (by simpa using c)]
    · rw [if_neg c, if_neg (by simpa using c)]
  · show f_X7_withoutGrace_4 σ b (n + 1) _ _ = _
    rw [f_X7_withoutGrace_4, h.nn]
    simp (disch := omega) only [lb_k0, lb_k1, lb_k2, lb_k3, lb_k4, lb_k5, lb_k6, lb_k7, lb_k8, lb_k9, lb_k10, lb_k11, lb_k12, lb_k13, lb_k14, lb_k15, lb_k16, lb_k19, lb_k20, lb_k30, lb_k31, lb_k48, lb_k51, lb_k55, lb_k59, lb_k60, lb_k61, lb_k63, lb_k96, lb_k98, lb_k99, lb_k100, lb_k102, lb_k103, lb_k104, lb_k106, lb_k107, lb_k108, lb_k112, lb_k115, lb_k116, lb_k121, lb_k255, lb_k256, lb_k999, lb_ixN, lb_chkT, lb_letS, lb_bndS, lb_cl, lb_le, lb_lt, lb_eq, lb_ad1, lb_sb1, lb_ml1]
    rw [if_pos (Nat.le_refl _)]
theorem pv_spoons (h : av_C b σ V) (hw : av_W V) : f_X7_spoons σ b = some (nI (av_sm (V 4) (V 8 0))) := by
  have hn := hw.1
  unfold f_X7_spoons
  refine lb_loop (fun n i => f_X7_spoons_4 σ b n (nI (av_sm (V 4) i)) (nI i)) (V 8 0) lb_N _ (by rw [lb_N300]; omega) (fun n i hi => ?_) (fun n => ?_)
  · show f_X7_spoons_4 σ b (n + 1) _ _ = _
    rw [f_X7_spoons_4, h.np]
    simp (disch := omega) only [lb_k0, lb_k1, lb_k2, lb_k3, lb_k4, lb_k5, lb_k6, lb_k7, lb_k8, lb_k9, lb_k10, lb_k11, lb_k12, lb_k13, lb_k14, lb_k15, lb_k16, lb_k19, lb_k20, lb_k30, lb_k31, lb_k48, lb_k51, lb_k55, lb_k59, lb_k60, lb_k61, lb_k63, lb_k96, lb_k98, lb_k99, lb_k100, lb_k102, lb_k103, lb_k104, lb_k106, lb_k107, lb_k108, lb_k112, lb_k115, lb_k116, lb_k121, lb_k255, lb_k256, lb_k999, lb_ixN, lb_chkT, lb_letS, lb_bndS, lb_cl, lb_le, lb_lt, lb_eq, lb_ad1, lb_sb1, lb_ml1, h.r4]
    rw [if_neg (by omega)]; rfl
  · show f_X7_spoons_4 σ b (n + 1) _ _ = _
    rw [f_X7_spoons_4, h.np]
    simp (disch := omega) only [lb_k0, lb_k1, lb_k2, lb_k3, lb_k4, lb_k5, lb_k6, lb_k7, lb_k8, lb_k9, lb_k10, lb_k11, lb_k12, lb_k13, lb_k14, lb_k15, lb_k16, lb_k19, lb_k20, lb_k30, lb_k31, lb_k48, lb_k51, lb_k55, lb_k59, lb_k60, lb_k61, lb_k63, lb_k96, lb_k98, lb_k99, lb_k100, lb_k102, lb_k103, lb_k104, lb_k106, lb_k107, lb_k108, lb_k112, lb_k115, lb_k116, lb_k121, lb_k255, lb_k256, lb_k999, lb_ixN, lb_chkT, lb_letS, lb_bndS, lb_cl, lb_le, lb_lt, lb_eq, lb_ad1, lb_sb1, lb_ml1]
    rw [if_pos (Nat.le_refl _)]
theorem pv_potsOf (h : av_C b σ V) (hw : av_W V) {p : Nat} (hp : p < 5) : f_X7_potsOf σ b (nI p) = some (nI (av_bt (fun t => decide (V 5 t = p)) id (V 8 0))) := by
  have hn := hw.1
  unfold f_X7_potsOf
  refine lb_loop (fun n i => f_X7_potsOf_4 σ b n (nI p) (nI (av_bt (fun t => decide (V 5 t = p)) id i)) (nI i)) (V 8 0) lb_N _ (by rw [lb_N300]; omega) (fun n i hi => ?_) (fun n => ?_)
  · show f_X7_potsOf_4 σ b (n + 1) _ _ _ = _
    have h7 := hw.2.2.1 i (by omega)
    rw [f_X7_potsOf_4, h.np]
    simp (disch := omega) only [lb_k0, lb_k1, lb_k2, lb_k3, lb_k4, lb_k5, lb_k6, lb_k7, lb_k8, lb_k9, lb_k10, lb_k11, lb_k12, lb_k13, lb_k14, lb_k15, lb_k16, lb_k19, lb_k20, lb_k30, lb_k31, lb_k48, lb_k51, lb_k55, lb_k59, lb_k60, lb_k61, lb_k63, lb_k96, lb_k98, lb_k99, lb_k100, lb_k102, lb_k103, lb_k104, lb_k106, lb_k107, lb_k108, lb_k112, lb_k115, lb_k116, lb_k121, lb_k255, lb_k256, lb_k999, lb_ixN, lb_chkT, lb_letS, lb_bndS, lb_cl, lb_le, lb_lt, lb_eq, lb_ad1, lb_sb1, lb_ml1, h.r5, lb_shl, lb_or1]
    rw [if_neg (by omega), av_bt]
    by_cases c : V 5 i = p
    · rw [if_pos c, if_pos (by simpa using c)]; rfl
    · rw [if_neg c, if_neg (by simpa using c)]
  · show f_X7_potsOf_4 σ b (n + 1) _ _ _ = _
    rw [f_X7_potsOf_4, h.np]
    simp (disch := omega) only [lb_k0, lb_k1, lb_k2, lb_k3, lb_k4, lb_k5, lb_k6, lb_k7, lb_k8, lb_k9, lb_k10, lb_k11, lb_k12, lb_k13, lb_k14, lb_k15, lb_k16, lb_k19, lb_k20, lb_k30, lb_k31, lb_k48, lb_k51, lb_k55, lb_k59, lb_k60, lb_k61, lb_k63, lb_k96, lb_k98, lb_k99, lb_k100, lb_k102, lb_k103, lb_k104, lb_k106, lb_k107, lb_k108, lb_k112, lb_k115, lb_k116, lb_k121, lb_k255, lb_k256, lb_k999, lb_ixN, lb_chkT, lb_letS, lb_bndS, lb_cl, lb_le, lb_lt, lb_eq, lb_ad1, lb_sb1, lb_ml1]
    rw [if_pos (Nat.le_refl _)]
theorem pv_honestPots (h : av_C b σ V) (hw : av_W V) : f_X7_honestPots σ b = some (nI (av_bt (fun t => decide (V 3 t = V 2 t)) id (V 8 0))) := by
  have hn := hw.1
  unfold f_X7_honestPots
  refine lb_loop (fun n i => f_X7_honestPots_4 σ b n (nI (av_bt (fun t => decide (V 3 t = V 2 t)) id i)) (nI i)) (V 8 0) lb_N _ (by rw [lb_N300]; omega) (fun n i hi => ?_) (fun n => ?_)
  · show f_X7_honestPots_4 σ b (n + 1) _ _ = _
    have h7 := hw.2.2.1 i (by omega)
    rw [f_X7_honestPots_4, h.np]
    simp (disch := omega) only [lb_k0, lb_k1, lb_k2, lb_k3, lb_k4, lb_k5, lb_k6, lb_k7, lb_k8, lb_k9, lb_k10, lb_k11, lb_k12, lb_k13, lb_k14, lb_k15, lb_k16, lb_k19, lb_k20, lb_k30, lb_k31, lb_k48, lb_k51, lb_k55, lb_k59, lb_k60, lb_k61, lb_k63, lb_k96, lb_k98, lb_k99, lb_k100, lb_k102, lb_k103, lb_k104, lb_k106, lb_k107, lb_k108, lb_k112, lb_k115, lb_k116, lb_k121, lb_k255, lb_k256, lb_k999, lb_ixN, lb_chkT, lb_letS, lb_bndS, lb_cl, lb_le, lb_lt, lb_eq, lb_ad1, lb_sb1, lb_ml1, h.r3, h.r2, lb_shl, lb_or1]
    rw [if_neg (by omega), av_bt]
    by_cases c : V 3 i = V 2 i
    · rw [if_pos c, if_pos (by simpa using c)]; rfl
    · rw [if_neg c, if_neg (by simpa using c)]
  · show f_X7_honestPots_4 σ b (n + 1) _ _ = _
    rw [f_X7_honestPots_4, h.np]
    simp (disch := omega) only [lb_k0, lb_k1, lb_k2, lb_k3, lb_k4, lb_k5, lb_k6, lb_k7, lb_k8, lb_k9, lb_k10, lb_k11, lb_k12, lb_k13, lb_k14, lb_k15, lb_k16, lb_k19, lb_k20, lb_k30, lb_k31, lb_k48, lb_k51, lb_k55, lb_k59, lb_k60, lb_k61, lb_k63, lb_k96, lb_k98, lb_k99, lb_k100, lb_k102, lb_k103, lb_k104, lb_k106, lb_k107, lb_k108, lb_k112, lb_k115, lb_k116, lb_k121, lb_k255, lb_k256, lb_k999, lb_ixN, lb_chkT, lb_letS, lb_bndS, lb_cl, lb_le, lb_lt, lb_eq, lb_ad1, lb_sb1, lb_ml1]
    rw [if_pos (Nat.le_refl _)]
theorem pv_hopefulPots (h : av_C b σ V) (hw : av_W V) : f_X7_hopefulPots σ b = some (nI (av_bt (fun t => decide (V 3 t = V 6 (V 5 t))) id (V 8 0))) := by
  have hn := hw.1
  unfold f_X7_hopefulPots
  refine lb_loop (fun n i => f_X7_hopefulPots_4 σ b n (nI (av_bt (fun t => decide (V 3 t = V 6 (V 5 t))) id i)) (nI i)) (V 8 0) lb_N _ (by rw [lb_N300]; omega) (fun n i hi => ?_) (fun n => ?_)
  · show f_X7_hopefulPots_4 σ b (n + 1) _ _ = _
    have h7 := hw.2.2.1 i (by omega)
    have h8 := hw.2.2.2.2 (V 5 i) (by omega)
    rw [f_X7_hopefulPots_4, h.np]
    simp (disch := omega) only [lb_k0, lb_k1, lb_k2, lb_k3, lb_k4, lb_k5, lb_k6, lb_k7, lb_k8, lb_k9, lb_k10, lb_k11, lb_k12, lb_k13, lb_k14, lb_k15, lb_k16, lb_k19, lb_k20, lb_k30, lb_k31, lb_k48, lb_k51, lb_k55, lb_k59, lb_k60, lb_k61, lb_k63, lb_k96, lb_k98, lb_k99, lb_k100, lb_k102, lb_k103, lb_k104, lb_k106, lb_k107, lb_k108, lb_k112, lb_k115, lb_k116, lb_k121, lb_k255, lb_k256, lb_k999, lb_ixN, lb_chkT, lb_letS, lb_bndS, lb_cl, lb_le, lb_lt, lb_eq, lb_ad1, lb_sb1, lb_ml1, h.r3, h.r5, h.r6, lb_shl, lb_or1]
    rw [if_neg (by omega), av_bt]
    by_cases c : V 3 i = V 6 (V 5 i)
    · rw [if_pos c, if_pos (by simpa using c)]; rfl
    · rw [if_neg c, if_neg (by simpa using c)]
  · show f_X7_hopefulPots_4 σ b (n + 1) _ _ = _
    rw [f_X7_hopefulPots_4, h.np]
    simp (disch := omega) only [lb_k0, lb_k1, lb_k2, lb_k3, lb_k4, lb_k5, lb_k6, lb_k7, lb_k8, lb_k9, lb_k10, lb_k11, lb_k12, lb_k13, lb_k14, lb_k15, lb_k16, lb_k19, lb_k20, lb_k30, lb_k31, lb_k48, lb_k51, lb_k55, lb_k59, lb_k60, lb_k61, lb_k63, lb_k96, lb_k98, lb_k99, lb_k100, lb_k102, lb_k103, lb_k104, lb_k106, lb_k107, lb_k108, lb_k112, lb_k115, lb_k116, lb_k121, lb_k255, lb_k256, lb_k999, lb_ixN, lb_chkT, lb_letS, lb_bndS, lb_cl, lb_le, lb_lt, lb_eq, lb_ad1, lb_sb1, lb_ml1]
    rw [if_pos (Nat.le_refl _)]
theorem pv_sortsHeld (h : av_C b σ V) (hw : av_W V) : f_X7_sortsHeld σ b = some (nI (av_bt (fun t => decide (0 < V 4 t)) (V 2) (V 8 0))) := by
  have hn := hw.1
  unfold f_X7_sortsHeld
  refine lb_loop (fun n i => f_X7_sortsHeld_4 σ b n (nI (av_bt (fun t => decide (0 < V 4 t)) (V 2) i)) (nI i)) (V 8 0) lb_N _ (by rw [lb_N300]; omega) (fun n i hi => ?_) (fun n => ?_)
  · show f_X7_sortsHeld_4 σ b (n + 1) _ _ = _
    have h7 := hw.2.2.1 i (by omega)
    rw [f_X7_sortsHeld_4, h.np]
    simp (disch := omega) only [lb_k0, lb_k1, lb_k2, lb_k3, lb_k4, lb_k5, lb_k6, lb_k7, lb_k8, lb_k9, lb_k10, lb_k11, lb_k12, lb_k13, lb_k14, lb_k15, lb_k16, lb_k19, lb_k20, lb_k30, lb_k31, lb_k48, lb_k51, lb_k55, lb_k59, lb_k60, lb_k61, lb_k63, lb_k96, lb_k98, lb_k99, lb_k100, lb_k102, lb_k103, lb_k104, lb_k106, lb_k107, lb_k108, lb_k112, lb_k115, lb_k116, lb_k121, lb_k255, lb_k256, lb_k999, lb_ixN, lb_chkT, lb_letS, lb_bndS, lb_cl, lb_le, lb_lt, lb_eq, lb_ad1, lb_sb1, lb_ml1, h.r4, h.r2, lb_shl, lb_or1]
    rw [if_neg (by omega), av_bt]
    by_cases c : V 4 i ≤ 0
    · rw [if_pos c, if_neg (by simp; omega)]
    · rw [if_neg c, if_pos (by simp; omega)]
  · show f_X7_sortsHeld_4 σ b (n + 1) _ _ = _
    rw [f_X7_sortsHeld_4, h.np]
    simp (disch := omega) only [lb_k0, lb_k1, lb_k2, lb_k3, lb_k4, lb_k5, lb_k6, lb_k7, lb_k8, lb_k9, lb_k10, lb_k11, lb_k12, lb_k13, lb_k14, lb_k15, lb_k16, lb_k19, lb_k20, lb_k30, lb_k31, lb_k48, lb_k51, lb_k55, lb_k59, lb_k60, lb_k61, lb_k63, lb_k96, lb_k98, lb_k99, lb_k100, lb_k102, lb_k103, lb_k104, lb_k106, lb_k107, lb_k108, lb_k112, lb_k115, lb_k116, lb_k121, lb_k255, lb_k256, lb_k999, lb_ixN, lb_chkT, lb_letS, lb_bndS, lb_cl, lb_le, lb_lt, lb_eq, lb_ad1, lb_sb1, lb_ml1]
    rw [if_pos (Nat.le_refl _)]
theorem pv_sortsOnLabels (h : av_C b σ V) (hw : av_W V) : f_X7_sortsOnLabels σ b = some (nI (av_bt (fun t => decide (¬ V 3 t = 6)) (V 3) (V 8 0))) := by
  have hn := hw.1
  unfold f_X7_sortsOnLabels
  refine lb_loop (fun n i => f_X7_sortsOnLabels_4 σ b n (nI (av_bt (fun t => decide (¬ V 3 t = 6)) (V 3) i)) (nI i)) (V 8 0) lb_N _ (by rw [lb_N300]; omega) (fun n i hi => ?_) (fun n => ?_)
  · show f_X7_sortsOnLabels_4 σ b (n + 1) _ _ = _
    have h7 := hw.2.2.1 i (by omega)
    rw [f_X7_sortsOnLabels_4, h.np]
    simp (disch := omega) only [lb_k0, lb_k1, lb_k2, lb_k3, lb_k4, lb_k5, lb_k6, lb_k7, lb_k8, lb_k9, lb_k10, lb_k11, lb_k12, lb_k13, lb_k14, lb_k15, lb_k16, lb_k19, lb_k20, lb_k30, lb_k31, lb_k48, lb_k51, lb_k55, lb_k59, lb_k60, lb_k61, lb_k63, lb_k96, lb_k98, lb_k99, lb_k100, lb_k102, lb_k103, lb_k104, lb_k106, lb_k107, lb_k108, lb_k112, lb_k115, lb_k116, lb_k121, lb_k255, lb_k256, lb_k999, lb_ixN, lb_chkT, lb_letS, lb_bndS, lb_cl, lb_le, lb_lt, lb_eq, lb_ad1, lb_sb1, lb_ml1, h.r3, lb_shl, lb_or1]
    rw [if_neg (by omega), av_bt]
    by_cases c : V 3 i = 6
    · rw [if_pos c, if_neg (by simp; omega)]
    · rw [if_neg c, if_pos (by simp; omega)]
  · show f_X7_sortsOnLabels_4 σ b (n + 1) _ _ = _
    rw [f_X7_sortsOnLabels_4, h.np]
    simp (disch := omega) only [lb_k0, lb_k1, lb_k2, lb_k3, lb_k4, lb_k5, lb_k6, lb_k7, lb_k8, lb_k9, lb_k10, lb_k11, lb_k12, lb_k13, lb_k14, lb_k15, lb_k16, lb_k19, lb_k20, lb_k30, lb_k31, lb_k48, lb_k51, lb_k55, lb_k59, lb_k60, lb_k61, lb_k63, lb_k96, lb_k98, lb_k99, lb_k100, lb_k102, lb_k103, lb_k104, lb_k106, lb_k107, lb_k108, lb_k112, lb_k115, lb_k116, lb_k121, lb_k255, lb_k256, lb_k999, lb_ixN, lb_chkT, lb_letS, lb_bndS, lb_cl, lb_le, lb_lt, lb_eq, lb_ad1, lb_sb1, lb_ml1]
    rw [if_pos (Nat.le_refl _)]
/-- spoons of a sort -/
def av_so (V : av_V) (x n : Nat) : Nat := av_sm (fun t => if V 2 t = x then V 4 t else 0) n
theorem av_so_le (hw : av_W V) (x : Nat) : ∀ n, n ≤ 8 → av_so V x n ≤ 9 * n
  | 0, _ => Nat.le_refl _
  | n + 1, h => by
    have h1 := av_so_le hw x n (by omega)
    have h2 := hw.2.2.1 n (by omega)
    unfold av_so at *
    rw [av_sm]
    split <;> omega
theorem pv_spoonsOf (h : av_C b σ V) (hw : av_W V) {x : Nat} (hx : x < 6) : f_X7_spoonsOf σ b (nI x) = some (nI (av_so V x (V 8 0))) := by
  have hn := hw.1
  unfold f_X7_spoonsOf
  refine lb_loop (fun n i => f_X7_spoonsOf_4 σ b n (nI x) (nI (av_so V x i)) (nI i)) (V 8 0) lb_N _ (by rw [lb_N300]; omega) (fun n i hi => ?_) (fun n => ?_)
  · show f_X7_spoonsOf_4 σ b (n + 1) _ _ _ = _
    have h7 := hw.2.2.1 i (by omega)
    rw [f_X7_spoonsOf_4, h.np]
    simp (disch := omega) only [lb_k0, lb_k1, lb_k2, lb_k3, lb_k4, lb_k5, lb_k6, lb_k7, lb_k8, lb_k9, lb_k10, lb_k11, lb_k12, lb_k13, lb_k14, lb_k15, lb_k16, lb_k19, lb_k20, lb_k30, lb_k31, lb_k48, lb_k51, lb_k55, lb_k59, lb_k60, lb_k61, lb_k63, lb_k96, lb_k98, lb_k99, lb_k100, lb_k102, lb_k103, lb_k104, lb_k106, lb_k107, lb_k108, lb_k112, lb_k115, lb_k116, lb_k121, lb_k255, lb_k256, lb_k999, lb_ixN, lb_chkT, lb_letS, lb_bndS, lb_cl, lb_le, lb_lt, lb_eq, lb_ad1, lb_sb1, lb_ml1, h.r2, h.r4]
    rw [if_neg (by omega)]
    unfold av_so
    rw [av_sm]
    by_cases c : V 2 i = x
    · rw [if_pos c, if_pos c]
    · rw [if_neg c, if_neg c]; rfl
  · show f_X7_spoonsOf_4 σ b (n + 1) _ _ _ = _
    rw [f_X7_spoonsOf_4, h.np]
    simp (disch := omega) only [lb_k0, lb_k1, lb_k2, lb_k3, lb_k4, lb_k5, lb_k6, lb_k7, lb_k8, lb_k9, lb_k10, lb_k11, lb_k12, lb_k13, lb_k14, lb_k15, lb_k16, lb_k19, lb_k20, lb_k30, lb_k31, lb_k48, lb_k51, lb_k55, lb_k59, lb_k60, lb_k61, lb_k63, lb_k96, lb_k98, lb_k99, lb_k100, lb_k102, lb_k103, lb_k104, lb_k106, lb_k107, lb_k108, lb_k112, lb_k115, lb_k116, lb_k121, lb_k255, lb_k256, lb_k999, lb_ixN, lb_chkT, lb_letS, lb_bndS, lb_cl, lb_le, lb_lt, lb_eq, lb_ad1, lb_sb1, lb_ml1]
    rw [if_pos (Nat.le_refl _)]
/-- the first of the greatest, up to n -/
def av_mx (f : Nat → Nat) : Nat → Nat
  | 0 => 0
  | n + 1 => if f n ≤ f (av_mx f n) then av_mx f n else n
theorem av_mx_le (f : Nat → Nat) : ∀ n, av_mx f n ≤ n
  | 0 => Nat.le_refl _
  | n + 1 => by have := av_mx_le f n; rw [av_mx]; split <;> omega
theorem pv_mostHeld (h : av_C b σ V) (hw : av_W V) : f_X7_mostHeld σ b = some (nI (av_mx (fun x => av_so V x (V 8 0)) 6)) := by
  have hn := hw.1
  unfold f_X7_mostHeld
  have e1 : av_mx (fun x => av_so V x (V 8 0)) 1 = 0 := by rw [av_mx]; split <;> rfl
  have e2 : nI 0 = nI (av_mx (fun x => av_so V x (V 8 0)) 1) := by rw [e1]
  show f_X7_mostHeld_4 σ b lb_N (nI 0) (nI 1) = _
  rw [e2]
  refine lb_loop (fun n i => f_X7_mostHeld_4 σ b n (nI (av_mx (fun x => av_so V x (V 8 0)) (1 + i))) (nI (1 + i))) 5 lb_N _ (by rw [lb_N300]; omega) (fun n i hi => ?_) (fun n => ?_)
  · show f_X7_mostHeld_4 σ b (n + 1) _ _ = _
    have hm := av_mx_le (fun x => av_so V x (V 8 0)) (1 + i)
    have l1 := av_so_le hw (1 + i) (V 8 0) hn
    have l2 := av_so_le hw (av_mx (fun x => av_so V x (V 8 0)) (1 + i)) (V 8 0) hn
    rw [f_X7_mostHeld_4, pv_spoonsOf h hw (show 1 + i < 6 by omega), pv_spoonsOf h hw (show av_mx (fun x => av_so V x (V 8 0)) (1 + i) < 6 by omega)]
    simp (disch := omega) only [lb_k0, lb_k1, lb_k2, lb_k3, lb_k4, lb_k5, lb_k6, lb_k7, lb_k8, lb_k9, lb_k10, lb_k11, lb_k12, lb_k13, lb_k14, lb_k15, lb_k16, lb_k19, lb_k20, lb_k30, lb_k31, lb_k48, lb_k51, lb_k55, lb_k59, lb_k60, lb_k61, lb_k63, lb_k96, lb_k98, lb_k99, lb_k100, lb_k102, lb_k103, lb_k104, lb_k106, lb_k107, lb_k108, lb_k112, lb_k115, lb_k116, lb_k121, lb_k255, lb_k256, lb_k999, lb_ixN, lb_chkT, lb_letS, lb_bndS, lb_cl, lb_le, lb_lt, lb_eq, lb_ad1, lb_sb1, lb_ml1]
    rw [if_neg (by omega), show 1 + (i + 1) = (1 + i) + 1 by omega, av_mx]
    by_cases c : av_so V (1 + i) (V 8 0) ≤ av_so V (av_mx (fun x => av_so V x (V 8 0)) (1 + i)) (V 8 0)
    · rw [if_pos c, if_pos c]
    · rw [if_neg c, if_neg c]
  · show f_X7_mostHeld_4 σ b (n + 1) _ _ = _
    rw [f_X7_mostHeld_4]
    simp (disch := omega) only [lb_k0, lb_k1, lb_k2, lb_k3, lb_k4, lb_k5, lb_k6, lb_k7, lb_k8, lb_k9, lb_k10, lb_k11, lb_k12, lb_k13, lb_k14, lb_k15, lb_k16, lb_k19, lb_k20, lb_k30, lb_k31, lb_k48, lb_k51, lb_k55, lb_k59, lb_k60, lb_k61, lb_k63, lb_k96, lb_k98, lb_k99, lb_k100, lb_k102, lb_k103, lb_k104, lb_k106, lb_k107, lb_k108, lb_k112, lb_k115, lb_k116, lb_k121, lb_k255, lb_k256, lb_k999, lb_ixN, lb_chkT, lb_letS, lb_bndS, lb_cl, lb_le, lb_lt, lb_eq, lb_ad1, lb_sb1, lb_ml1]
    rw [if_pos (by omega)]
end CS
