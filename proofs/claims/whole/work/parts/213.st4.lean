theorem av_C.cgV {b : Nat} {σ : lb_Mem} {V U : av_V} (h : av_C b σ V) (e : ∀ a i, a < 9 → U a i = V a i) : av_C b σ U := ⟨fun a t ha ht => by rw [e a t (by omega)]; exact h.1 a t ha ht, fun j hj => by rw [e 8 j (by decide)]; exact h.2 j hj⟩
theorem av_M.cgV {k : Nat} {σ : lb_Mem} {V U : av_V} (h : av_M k σ V) (e : ∀ a i, a < 9 → U a i = V a i) : av_M k σ U := ⟨fun a t ha ht => by rw [e a t (by omega)]; exact h.1 a t ha ht, fun a p ha hp => by rw [e _ p (by omega)]; exact h.2.1 a p ha hp, fun j hj => by rw [e 8 j (by decide)]; exact h.2.2 j hj⟩
theorem av_W.cgV {V U : av_V} (h : av_W V) (e : ∀ a i, a < 9 → U a i = V a i) : av_W U := by
  refine ⟨by rw [e 8 0 (by decide)]; exact h.1, by rw [e 8 1 (by decide)]; exact h.2.1, fun t ht => ?_, fun t ht => ?_, fun p hp => ?_⟩
  · rw [e 0 t (by decide), e 1 t (by decide), e 2 t (by decide), e 3 t (by decide), e 4 t (by decide), e 5 t (by decide)]; exact h.2.2.1 t ht
  · rw [e 5 t (by decide), e 8 1 (by decide)]; rw [e 8 0 (by decide)] at ht; exact h.2.2.2.1 t ht
  · rw [e 6 p (by decide), e 7 p (by decide)]; exact h.2.2.2.2 p hp
/-- a place outside the villages is set, in both -/
theorem rs_C.out {σ : lb_Mem} {S : av_V} (h : rs_C σ S) {k i a j x : Nat} (hk : (k = 0 ∧ i = 3 ∧ a = 9 ∧ j = 0) ∨ (k = 49 ∧ i = 1 ∧ a = 9 ∧ j = 1) ∨ (k = 0 ∧ i = 6 ∧ a = 9 ∧ j = 2) ∨ (k = 50 ∧ i = j ∧ a = 10) ∨ (k = 51 ∧ i = j ∧ a = 11)) : rs_C (lb_sto σ k i (nI x)) (av_st S a j x) := by
  obtain ⟨h1, h2, h3, h4, h5, h6, h7, h8⟩ := h
  have key : ∀ k' i' a' j' : Nat, σ k' i' = nI (S a' j') → ((k' = k ∧ i' = i) ↔ (a' = a ∧ j' = j)) → lb_sto σ k i (nI x) k' i' = nI (av_st S a j x a' j') := by
    intro k' i' a' j' he hq
    by_cases c : a' = a ∧ j' = j
    · obtain ⟨rfl, rfl⟩ := hq.mpr c
      obtain ⟨rfl, rfl⟩ := c
      rw [lb_sto_s, av_st_s]
    · rw [av_st, if_neg c]
      have hn : ¬ (k' = k ∧ i' = i) := fun z => c (hq.mp z)
      by_cases ck : k' = k
      · subst ck; rw [lb_sto_i (fun z => hn ⟨rfl, z⟩)]; exact he
      · rw [lb_sto_o ck]; exact he
  refine ⟨(h1.far (by omega)).cong (fun k' _ _ => lb_sto_o (by omega)), ?_, key _ _ _ _ h3 (by omega), key _ _ _ _ h4 (by omega), key _ _ _ _ h5 (by omega), fun i' hi => key _ _ _ _ (h6 i' hi) (by omega), fun i' hi => key _ _ _ _ (h7 i' hi) (by omega), fun i' hi => key _ _ _ _ (h8 i' hi) (by omega)⟩
  rw [rs_kv_st (by omega)]
  exact h2.cong (fun k' _ _ => lb_sto_o (by omega))
theorem rs_M.out {σ : lb_Mem} {S : av_V} (h : rs_M σ S) {k i a j x : Nat} (hk : (k = 53 ∧ i = 4 ∧ a = 9 ∧ j = 0) ∨ (k = 53 ∧ i = 8 ∧ a = 9 ∧ j = 1) ∨ (k = 53 ∧ i = 9 ∧ a = 9 ∧ j = 2) ∨ (k = 58 ∧ i = j ∧ a = 10) ∨ (k = 59 ∧ i = j ∧ a = 11)) : rs_M (lb_sto σ k i (nI x)) (av_st S a j x) := by
  obtain ⟨h1, h2, h3, h4, h5, h6, h7, h8⟩ := h
  have key : ∀ k' i' a' j' : Nat, σ k' i' = nI (S a' j') → ((k' = k ∧ i' = i) ↔ (a' = a ∧ j' = j)) → lb_sto σ k i (nI x) k' i' = nI (av_st S a j x a' j') := by
    intro k' i' a' j' he hq
    by_cases c : a' = a ∧ j' = j
    · obtain ⟨rfl, rfl⟩ := hq.mpr c
      obtain ⟨rfl, rfl⟩ := c
      rw [lb_sto_s, av_st_s]
    · rw [av_st, if_neg c]
      have hn : ¬ (k' = k ∧ i' = i) := fun z => c (hq.mp z)
      by_cases ck : k' = k
      · subst ck; rw [lb_sto_i (fun z => hn ⟨rfl, z⟩)]; exact he
      · rw [lb_sto_o ck]; exact he
  refine ⟨(h1.far (by omega)).cong (lb_sto_o (by omega)), ?_, key _ _ _ _ h3 (by omega), key _ _ _ _ h4 (by omega), key _ _ _ _ h5 (by omega), fun i' hi => key _ _ _ _ (h6 i' hi) (by omega), fun i' hi => key _ _ _ _ (h7 i' hi) (by omega), fun i' hi => key _ _ _ _ (h8 i' hi) (by omega)⟩
  rw [rs_kv_st (by omega)]
  exact h2.cong (lb_sto_o (by omega))
theorem rs_W.out {S : av_V} (h : rs_W S) {a j x : Nat} (hx : (a = 9 ∧ j = 0 ∧ x ≤ 1) ∨ (a = 9 ∧ j = 1 ∧ x ≤ 96) ∨ (a = 9 ∧ j = 2 ∧ x ≤ 16) ∨ (a = 10 ∧ x ≤ 255) ∨ (a = 11 ∧ x ≤ 99)) : rs_W (av_st S a j x) := by
  obtain ⟨h1, h2, h3, h4, h5, h6, h7, h8, h9⟩ := h
  have key : ∀ a' j' b, S a' j' ≤ b → ((a' = a ∧ j' = j) → x ≤ b) → av_st S a j x a' j' ≤ b := by
    intro a' j' b h1 h2
    unfold av_st
    split
    · rename_i c; exact h2 c
    · exact h1
  exact ⟨h1.far (by omega), key 8 2 999 h2 (by omega), by rw [rs_kv_st (by omega)]; exact h3, key 28 2 999 h4 (by omega), key 9 0 1 h5 (by omega), key 9 1 96 h6 (by omega), key 9 2 16 h7 (by omega), fun i => key 10 i 255 (h8 i) (by omega), fun i => key 11 i 99 (h9 i) (by omega)⟩
theorem st_clear : lb_st_clear rs_R := by
  intro σ h
  refine rs_go (f8 := fun σ => f_X8_clear σ) (f9 := fun σ => f_X9_clear σ) h (fun S hw => ?_)
  refine ⟨nI (S 9 2), av_st S 9 2 0, hw.out (by omega), fun σ hc => ?_, fun σ hm => ?_⟩
  · unfold f_X8_clear
    rw [lb_letS, lb_letS, hc.2.2.2.2.1, lb_k0]
    exact ⟨_, rfl, hc.out (by omega), fun k hk => lb_sto_o (by omega)⟩
  · unfold f_X9_clear
    rw [lb_letS, lb_letS, hm.2.2.2.2.1, lb_k0]
    exact ⟨_, rfl, hm.out (by omega), fun k hk => lb_sto_o (by omega)⟩
theorem st_letter : lb_st_letter rs_R := by
  intro σ x1 h
  refine rs_go (f8 := fun σ => f_X8_letter x1 σ) (f9 := fun σ => f_X9_letter x1 σ) h (fun S hw => ?_)
  have hl := hw.2.2.2.2.2.1
  have g8 : ∀ σ, rs_C σ S → f_X8_letter x1 σ = f_X8_letter_26 x1 σ (-(nI (ft_w x1 0 255))) (-(nI (if 96 ≤ S 9 1 then 6 else 0))) := by
    intro σ hc
    unfold f_X8_letter
    rw [pc_within, hc.2.2.2.1, lb_k96]
    by_cases c : 96 ≤ S 9 1
    · rw [if_pos c, if_pos (by rw [lb_le (by omega) (by omega)]; omega)]; rfl
    · rw [if_neg c, if_neg (by rw [lb_le (by omega) (by omega)]; omega)]; rfl
  by_cases hj : ft_w x1 0 255 = 0
  · obtain ⟨n, hn0, hn, rfl⟩ := ft_w0 (a := 0) (b := 255) (by decide) (by decide) hj
    by_cases c : 96 ≤ S 9 1
    · refine rs_rg hw (j := 6) (by decide) (fun σ hc => ?_) (fun σ hm => ?_)
      · try dsimp only
        rw [g8 σ hc, hj, if_pos c, f_X8_letter_26, pc_first (by decide), lb_letS]
        exact pc_else hc (j := 6) (by decide) (by decide)
      · try dsimp only
        unfold f_X9_letter f_X9_letter_27
        rw [if_pos (nI_pos' (by omega)), if_neg (by rw [lb_k255, lb_lt (by omega) (by omega)]; omega), hm.2.2.2.1, if_pos (by rw [lb_k96, lb_eq (by omega) (by omega)]; omega)]
        exact (pn_no6 hm).bid
    · have w1 := hw.out (a := 10) (j := S 9 1) (x := n) (by omega)
      refine ⟨nI (S 9 1 + 1), av_st (av_st S 10 (S 9 1) n) 9 1 (S 9 1 + 1), w1.out (by omega), fun σ hc => ?_, fun σ hm => ?_⟩
      · have c1 := hc.out (k := 50) (i := S 9 1) (a := 10) (j := S 9 1) (x := n) (by omega)
        rw [g8 σ hc, hj, if_neg c, f_X8_letter_26, pc_first (by decide), lb_letS, show ft_f 0 0 = 0 from rfl, lb_if0]
        unfold f_X4_add
        rw [hc.2.2.2.1, if_neg (by rw [lb_k96, lb_le (by omega) (by omega)]; omega), lb_ixN (by omega) (by decide), lb_chkT, lb_letS, lb_letS, lb_cl (by omega), lb_sto_o (by decide), hc.2.2.2.1, show nI (S 9 1) + 1 = nI (S 9 1 + 1) from nI_1 _, lb_bndS, lb_sto_s]
        exact ⟨_, rfl, c1.out (by omega), fun k hk => (lb_sto_o (by omega)).trans (lb_sto_o (by omega))⟩
      · have c1 := hm.out (k := 58) (i := S 9 1) (a := 10) (j := S 9 1) (x := n) (by omega)
        unfold f_X9_letter
        rw [if_pos (nI_pos' (by omega)), if_neg (by rw [lb_k255, lb_lt (by omega) (by omega)]; omega), hm.2.2.2.1, if_neg (by rw [lb_k96, lb_eq (by omega) (by omega)]; omega), lb_ixN (by omega) (by decide), lb_chkT, lb_letS, lb_letS, lb_cl (by omega), lb_sto_s, lb_sto_o (show (53 : Nat) ≠ 58 by decide), hm.2.2.2.1, show nI (S 9 1) + 1 = nI (S 9 1 + 1) from nI_1 _]
        exact ⟨_, rfl, c1.out (by omega), fun k hk => (lb_sto_o (by omega)).trans (lb_sto_o (by omega))⟩
  · refine rs_rg hw hj (fun σ hc => ?_) (fun σ hm => ?_)
    · try dsimp only
      rw [g8 σ hc, f_X8_letter_26, pc_first (ft_w7 _ _ _), ft_fn hj, lb_letS]
      exact pc_else hc hj (ft_w7 _ _ _)
    · try dsimp only
      unfold f_X9_letter f_X9_letter_27
      by_cases c1 : x1 < 0
      · have e : ft_w x1 0 255 = 4 := if_pos c1
        rw [if_neg (Int32.not_le.mpr c1), e]
        exact (pn_no4 hm).bid
      · rw [if_pos (Int32.not_lt.mp c1)]
        by_cases c2 : (255 : Int32) < x1
        · have e : ft_w x1 0 255 = 6 := by unfold ft_w; rw [if_neg c1, if_pos c2]
          rw [if_pos c2, e]
          exact (pn_no6 hm).bid
        · exact absurd (show ft_w x1 0 255 = 0 by unfold ft_w; rw [if_neg c1, if_neg c2]) hj
theorem st_row : lb_st_row rs_R := by
  intro σ x1 h
  refine rs_go (f8 := fun σ => f_X8_row x1 σ) (f9 := fun σ => f_X9_row x1 σ) h (fun S hw => ?_)
  have hl := hw.2.2.2.2.2.2.1
  have g8 : ∀ σ, rs_C σ S → f_X8_row x1 σ = f_X8_row_22 x1 σ (-(nI (ft_w x1 0 99))) (-(nI (if 16 ≤ S 9 2 then 6 else 0))) := by
    intro σ hc
    unfold f_X8_row
    rw [pc_within, hc.2.2.2.2.1, lb_k16]
    by_cases c : 16 ≤ S 9 2
    · rw [if_pos c, if_pos (by rw [lb_le (by omega) (by omega)]; omega)]; rfl
    · rw [if_neg c, if_neg (by rw [lb_le (by omega) (by omega)]; omega)]; rfl
  have g9 : ∀ σ, rs_M σ S → f_X9_row x1 σ = f_X9_row_24 x1 (-(nI (ft_f (ft_w x1 0 99) (if 16 ≤ S 9 2 then 6 else 0)))) σ := by
    intro σ hm
    unfold f_X9_row
    rw [pn_wrongBy, lb_letS, hm.2.2.2.2.1, lb_k16]
    by_cases c0 : ft_w x1 0 99 = 0
    · rw [c0, lb_if0, ft_fz rfl]
      by_cases c : 16 ≤ S 9 2
      · rw [if_pos c, if_pos (by rw [lb_eq (by omega) (by omega)]; omega)]; rfl
      · rw [if_neg c, if_neg (by rw [lb_eq (by omega) (by omega)]; omega)]
    · rw [lb_ifj c0 (ft_w7 _ _ _), ft_fn c0]
  have h7 : ft_f (ft_w x1 0 99) (if 16 ≤ S 9 2 then 6 else 0) < 7 := ft_f7 (ft_w7 _ _ _) (by split <;> decide)
  by_cases hj : ft_f (ft_w x1 0 99) (if 16 ≤ S 9 2 then 6 else 0) = 0
  · obtain ⟨j1, j2⟩ := ft_f0 hj
    obtain ⟨n, hn0, hn, rfl⟩ := ft_w0 (a := 0) (b := 99) (by decide) (by decide) j1
    have c : ¬ 16 ≤ S 9 2 := by intro z; rw [if_pos z] at j2; cases j2
    have w1 := hw.out (a := 11) (j := S 9 2) (x := n) (by omega)
    refine ⟨nI (S 9 2 + 1), av_st (av_st S 11 (S 9 2) n) 9 2 (S 9 2 + 1), w1.out (by omega), fun σ hc => ?_, fun σ hm => ?_⟩
    · have c1 := hc.out (k := 51) (i := S 9 2) (a := 11) (j := S 9 2) (x := n) (by omega)
      rw [g8 σ hc, f_X8_row_22, pc_first (ft_w7 _ _ _), hj, lb_letS, lb_if0, hc.2.2.2.2.1, lb_ixN (by omega) (by decide), lb_chkT, lb_letS, lb_letS, lb_cl (by omega), lb_sto_s, lb_sto_o (show (0 : Nat) ≠ 51 by decide), hc.2.2.2.2.1, show nI (S 9 2) + 1 = nI (S 9 2 + 1) from nI_1 _]
      exact ⟨_, rfl, c1.out (by omega), fun k hk => (lb_sto_o (by omega)).trans (lb_sto_o (by omega))⟩
    · have c1 := hm.out (k := 59) (i := S 9 2) (a := 11) (j := S 9 2) (x := n) (by omega)
      rw [g9 σ hm, f_X9_row_24, hj, lb_if0, hm.2.2.2.2.1, lb_ixN (by omega) (by decide), lb_chkT, lb_letS, lb_letS, lb_cl (by omega), lb_sto_s, lb_sto_o (show (53 : Nat) ≠ 59 by decide), hm.2.2.2.2.1, show nI (S 9 2) + 1 = nI (S 9 2 + 1) from nI_1 _]
      exact ⟨_, rfl, c1.out (by omega), fun k hk => (lb_sto_o (by omega)).trans (lb_sto_o (by omega))⟩
  · refine rs_rg hw hj (fun σ hc => ?_) (fun σ hm => ?_)
    · try dsimp only
      rw [g8 σ hc, f_X8_row_22, pc_first (ft_w7 _ _ _), lb_letS]
      exact pc_else hc hj h7
    · try dsimp only
      rw [g9 σ hm, f_X9_row_24]
      exact pn_else hm hj h7
/-- the image taken, and gone on from -/
def rs_im (S : av_V) : av_V := fun a i => if 20 ≤ a ∧ a < 29 then S (a - 20) i else if a = 9 ∧ i = 0 then 1 else S a i
def rs_on (S : av_V) : av_V := fun a i => if a < 9 then S (20 + a) i else S a i
theorem rs_im_lo {S : av_V} {a i : Nat} (h : a < 9) : rs_im S a i = S a i := by unfold rs_im; rw [if_neg (by omega), if_neg (by omega)]
theorem rs_im_o {S : av_V} {a i : Nat} (h : ¬ (20 ≤ a ∧ a < 29)) (h2 : ¬ (a = 9 ∧ i = 0)) : rs_im S a i = S a i := by unfold rs_im; rw [if_neg h, if_neg h2]
theorem rs_im_kv {S : av_V} {a i : Nat} (h : a < 9) : rs_kv (rs_im S) a i = S a i := by unfold rs_kv rs_im; rw [if_pos (by omega), show 20 + a - 20 = a by omega]
theorem st_image : lb_st_image rs_R := by
  intro σ h
  refine rs_go (f8 := fun σ => f_X8_image σ) (f9 := fun σ => f_X9_image σ) h (fun S hw => ?_)
  have hw' : rs_W (rs_im S) := by
    obtain ⟨h1, h2, h3, h4, h5, h6, h7, h8, h9⟩ := hw
    refine ⟨h1.cgV (fun a i ha => rs_im_lo ha), by rw [rs_im_lo (by decide)]; exact h2, h1.cgV (fun a i ha => rs_im_kv ha), ?_, ?_, ?_, ?_, fun i => ?_, fun i => ?_⟩
    · rw [show rs_im S 28 2 = S 8 2 from rs_im_kv (a := 8) (by decide)]; exact h2
    · exact Nat.le_refl 1
    · rw [rs_im_o (by decide) (by decide)]; exact h6
    · rw [rs_im_o (by decide) (by decide)]; exact h7
    · rw [rs_im_o (by decide) (fun z => absurd z.1 (by decide))]; exact h8 i
    · rw [rs_im_o (by decide) (fun z => absurd z.1 (by decide))]; exact h9 i
  refine ⟨nI (S 8 2), rs_im S, hw', fun σ hc => ?_, fun σ hm => ?_⟩
  · obtain ⟨σ1, a1, a2, a3⟩ := pv_become (b0 := 33) hc.1 (by omega)
    unfold f_X8_image
    rw [a1, lb_bndS, lb_letS, lb_sto_o (by decide), a3 1 (by decide), hc.1.yr]
    obtain ⟨h1, h2, h3, h4, h5, h6, h7, h8⟩ := hc
    refine ⟨_, rfl, ⟨(h1.cgV (fun a i ha => rs_im_lo ha)).cong (fun k hk1 hk2 => (lb_sto_o (by omega)).trans (a3 k (by omega))), (a2.cgV (fun a i ha => rs_im_kv ha)).cong (fun k hk1 hk2 => lb_sto_o (by omega)), lb_sto_s _ _ _ _, ?_, ?_, fun i hi => ?_, fun i hi => ?_, fun i hi => ?_⟩, fun k hk => (lb_sto_o (by omega)).trans (a3 k (by omega))⟩
    · rw [lb_sto_o (by decide), a3 49 (by decide), rs_im_o (by decide) (by decide)]; exact h4
    · rw [lb_sto_i (by decide), a3 0 (by decide), rs_im_o (by decide) (by decide)]; exact h5
    · rw [lb_sto_o (by decide), a3 50 (by decide), rs_im_o (by decide) (fun z => absurd z.1 (by decide))]; exact h6 i hi
    · rw [lb_sto_o (by decide), a3 51 (by decide), rs_im_o (by decide) (fun z => absurd z.1 (by decide))]; exact h7 i hi
    · rw [lb_sto_o (by decide), a3 52 (by decide), rs_im_o (by decide) (fun z => absurd z.1 (by decide))]; exact h8 i hi
  · obtain ⟨σ1, a1, a2, a3⟩ := pm_copies (k0 := 54) (k1 := 56) (by decide) σ
    have a4 := hm.1.copied a2
    unfold f_X9_image
    rw [a1, lb_bndS, lb_letS, lb_sto_o (by decide), a3 54 (by decide), show (2 : Int32).toNatClampNeg = 2 from rfl, hm.1.yr]
    obtain ⟨h1, h2, h3, h4, h5, h6, h7, h8⟩ := hm
    refine ⟨_, rfl, ⟨(h1.cgV (fun a i ha => rs_im_lo ha)).cong ((lb_sto_o (by decide)).trans (a3 54 (by decide))), (a4.cgV (fun a i ha => rs_im_kv ha)).cong (lb_sto_o (by decide)), lb_sto_s _ _ _ _, ?_, ?_, fun i hi => ?_, fun i hi => ?_, fun i hi => ?_⟩, fun k hk => (lb_sto_o (by omega)).trans (a3 k (by omega))⟩
    · rw [lb_sto_i (by decide), a3 53 (by decide), rs_im_o (by decide) (by decide)]; exact h4
    · rw [lb_sto_i (by decide), a3 53 (by decide), rs_im_o (by decide) (by decide)]; exact h5
    · rw [lb_sto_o (by decide), a3 58 (by decide), rs_im_o (by decide) (fun z => absurd z.1 (by decide))]; exact h6 i hi
    · rw [lb_sto_o (by decide), a3 59 (by decide), rs_im_o (by decide) (fun z => absurd z.1 (by decide))]; exact h7 i hi
    · rw [lb_sto_o (by decide), a3 60 (by decide), rs_im_o (by decide) (fun z => absurd z.1 (by decide))]; exact h8 i hi
theorem rs_on_lo {S : av_V} {a i : Nat} (h : a < 9) : rs_on S a i = rs_kv S a i := if_pos h
theorem rs_on_hi {S : av_V} {a i : Nat} (h : 9 ≤ a) : rs_on S a i = S a i := if_neg (by omega)
theorem st_on : lb_st_on rs_R := by
  intro σ h
  refine rs_go (f8 := fun σ => f_X8_on σ) (f9 := fun σ => f_X9_on σ) h (fun S hw => ?_)
  have h90 := hw.2.2.2.2.1
  by_cases c : S 9 0 = 0
  · refine rs_rg hw (j := 3) (by decide) (fun σ hc => ?_) (fun σ hm => ?_)
    · try dsimp only
      unfold f_X8_on
      rw [hc.2.2.1, c, if_pos (show nI 0 = 0 from rfl)]
      exact (pc_refuse hc (j := 3) (by decide)).bid
    · try dsimp only
      unfold f_X9_on
      rw [hm.2.2.1, c, if_pos (show nI 0 = 0 from rfl)]
      exact (pn_no3 hm).bid
  · have hw' : rs_W (rs_on S) := by
      obtain ⟨h1, h2, h3, h4, h5, h6, h7, h8, h9⟩ := hw
      have ek : rs_kv (rs_on S) = rs_kv S := by funext a i; exact rs_on_hi (by omega)
      exact ⟨h3.cgV (fun a i ha => rs_on_lo ha), by rw [rs_on_lo (by decide)]; exact h4, by rw [ek]; exact h3, by rw [rs_on_hi (by decide)]; exact h4, by rw [rs_on_hi (by decide)]; exact h5, by rw [rs_on_hi (by decide)]; exact h6, by rw [rs_on_hi (by decide)]; exact h7, fun i => by rw [rs_on_hi (by decide)]; exact h8 i, fun i => by rw [rs_on_hi (by decide)]; exact h9 i⟩
    refine ⟨nI (S 28 2), rs_on S, hw', fun σ hc => ?_, fun σ hm => ?_⟩
    · obtain ⟨σ1, a1, a2, a3⟩ := pv_become (b0 := 1) hc.2.1 (by omega)
      unfold f_X8_on
      rw [hc.2.2.1, if_neg (by rw [lb_k0, lb_eq (by omega) (by omega)]; exact c), a1, lb_bndS, a2.yr]
      obtain ⟨h1, h2, h3, h4, h5, h6, h7, h8⟩ := hc
      have ek : rs_kv (rs_on S) = rs_kv S := by funext a i; exact rs_on_hi (by omega)
      refine ⟨σ1, rfl, ⟨a2.cgV (fun a i ha => rs_on_lo ha), by rw [ek]; exact h2.cong (fun k _ _ => a3 k (by omega)), ?_, ?_, ?_, fun i hi => ?_, fun i hi => ?_, fun i hi => ?_⟩, fun k hk => a3 k (by omega)⟩
      · rw [a3 0 (by decide), rs_on_hi (by decide)]; exact h3
      · rw [a3 49 (by decide), rs_on_hi (by decide)]; exact h4
      · rw [a3 0 (by decide), rs_on_hi (by decide)]; exact h5
      · rw [a3 50 (by decide), rs_on_hi (by decide)]; exact h6 i hi
      · rw [a3 51 (by decide), rs_on_hi (by decide)]; exact h7 i hi
      · rw [a3 52 (by decide), rs_on_hi (by decide)]; exact h8 i hi
    · obtain ⟨σ1, a1, a2, a3⟩ := pm_copies (k0 := 56) (k1 := 54) (by decide) σ
      have a4 := hm.2.1.copied a2
      unfold f_X9_on
      rw [hm.2.2.1, if_neg (by rw [lb_k0, lb_eq (by omega) (by omega)]; exact c), a1, lb_bndS, show (2 : Int32).toNatClampNeg = 2 from rfl, a4.yr]
      exact ⟨σ1, rfl, hm.row (a4.cgV (fun a i ha => rs_on_lo ha)) a3 (fun b i hb => rs_on_hi hb), fun k hk => a3 k (by omega)⟩
