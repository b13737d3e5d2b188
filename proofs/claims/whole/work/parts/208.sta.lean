/-! the whole state in numbers: rows 0 .. 8 the village now; 9: 0 an image there, 1 letters, 2 in the row; 10 letters; 11 the row; 12 refusals; 20 .. 28 the image -/
def rs_kv (S : av_V) : av_V := fun a => S (20 + a)
def rs_C (σ : lb_Mem) (S : av_V) : Prop := av_C 1 σ S ∧ av_C 33 σ (rs_kv S) ∧ σ 0 3 = nI (S 9 0) ∧ σ 49 1 = nI (S 9 1) ∧ σ 0 6 = nI (S 9 2) ∧ (∀ i, i < 96 → σ 50 i = nI (S 10 i)) ∧ (∀ i, i < 16 → σ 51 i = nI (S 11 i)) ∧ ∀ i, i < 7 → σ 52 i = nI (S 12 i)
def rs_M (σ : lb_Mem) (S : av_V) : Prop := av_M 54 σ S ∧ av_M 56 σ (rs_kv S) ∧ σ 53 4 = nI (S 9 0) ∧ σ 53 8 = nI (S 9 1) ∧ σ 53 9 = nI (S 9 2) ∧ (∀ i, i < 96 → σ 58 i = nI (S 10 i)) ∧ (∀ i, i < 16 → σ 59 i = nI (S 11 i)) ∧ ∀ i, i < 7 → σ 60 i = nI (S 12 i)
def rs_W (S : av_V) : Prop := av_W S ∧ S 8 2 ≤ 999 ∧ av_W (rs_kv S) ∧ S 28 2 ≤ 999 ∧ S 9 0 ≤ 1 ∧ S 9 1 ≤ 96 ∧ S 9 2 ≤ 16 ∧ (∀ i, S 10 i ≤ 255) ∧ ∀ i, S 11 i ≤ 99
def rs_R (σ : lb_Mem) : Prop := ∃ S, rs_C σ S ∧ rs_M σ S ∧ rs_W S
theorem rs_C.cong {σ σ' : lb_Mem} {S : av_V} (h : rs_C σ S) (e : ∀ k, k < 53 → (k < 17 ∨ 32 < k) → σ' k = σ k) : rs_C σ' S := by
  obtain ⟨h1, h2, h3, h4, h5, h6, h7, h8⟩ := h
  exact ⟨h1.cong (fun k a b => e k (by omega) (by omega)), h2.cong (fun k a b => e k (by omega) (by omega)), by rw [e 0 (by decide) (by decide)]; exact h3, by rw [e 49 (by decide) (by decide)]; exact h4, by rw [e 0 (by decide) (by decide)]; exact h5, fun i hi => by rw [e 50 (by decide) (by decide)]; exact h6 i hi, fun i hi => by rw [e 51 (by decide) (by decide)]; exact h7 i hi, fun i hi => by rw [e 52 (by decide) (by decide)]; exact h8 i hi⟩
theorem rs_M.cong {σ σ' : lb_Mem} {S : av_V} (h : rs_M σ S) (e : ∀ k, 53 ≤ k → k ≠ 55 → k ≠ 57 → k ≠ 61 → σ' k = σ k) : rs_M σ' S := by
  obtain ⟨h1, h2, h3, h4, h5, h6, h7, h8⟩ := h
  exact ⟨h1.cong (e 54 (by decide) (by decide) (by decide) (by decide)), h2.cong (e 56 (by decide) (by decide) (by decide) (by decide)), by rw [e 53 (by decide) (by decide) (by decide) (by decide)]; exact h3, by rw [e 53 (by decide) (by decide) (by decide) (by decide)]; exact h4, by rw [e 53 (by decide) (by decide) (by decide) (by decide)]; exact h5, fun i hi => by rw [e 58 (by decide) (by decide) (by decide) (by decide)]; exact h6 i hi, fun i hi => by rw [e 59 (by decide) (by decide) (by decide) (by decide)]; exact h7 i hi, fun i hi => by rw [e 60 (by decide) (by decide) (by decide) (by decide)]; exact h8 i hi⟩
def rs_cl {T : Type} (σ : lb_Mem) (o : Option (T × lb_Mem)) (r : T) (S : av_V) : Prop := ∃ σ', o = some (r, σ') ∧ rs_C σ' S ∧ ∀ k, 53 ≤ k → σ' k = σ k
def rs_mo {T : Type} (σ : lb_Mem) (o : Option (T × lb_Mem)) (r : T) (S : av_V) : Prop := ∃ σ', o = some (r, σ') ∧ rs_M σ' S ∧ ∀ k, k < 53 → σ' k = σ k
theorem rs_go {T : Type} {f8 f9 : lb_Mem → Option (T × lb_Mem)} {σ : lb_Mem} (h : rs_R σ) (hs : ∀ S, rs_W S → ∃ r S', rs_W S' ∧ (∀ σ, rs_C σ S → rs_cl σ (f8 σ) r S') ∧ ∀ σ, rs_M σ S → rs_mo σ (f9 σ) r S') : ∃ (r : T) (σ1 σ2 : lb_Mem), f8 σ = some (r, σ1) ∧ f9 σ1 = some (r, σ2) ∧ rs_R σ2 := by
  obtain ⟨S, hc, hm, hw⟩ := h
  obtain ⟨r, S', hw', h8, h9⟩ := hs S hw
  obtain ⟨σ1, a1, a2, a3⟩ := h8 σ hc
  obtain ⟨σ2, b1, b2, b3⟩ := h9 σ1 (hm.cong (fun k hk _ _ _ => a3 k hk))
  exact ⟨r, σ1, σ2, a1, b1, S', a2.cong (fun k hk _ => b3 k hk), b2, hw'⟩
theorem lb_bid {T : Type} (x : Option (T × lb_Mem)) : x.bind (fun q => some (q.1, q.2)) = x := by cases x <;> rfl
/-! refusals -/
def rs_ref (S : av_V) (j : Nat) : av_V := av_st S 12 j (S 12 j + 1)
theorem rs_kv_st {S : av_V} {a i x : Nat} (h : a < 20) : rs_kv (av_st S a i x) = rs_kv S := by
  funext b j
  exact av_st_a _ (by omega) _ _ _
theorem av_C.far {b : Nat} {σ : lb_Mem} {S : av_V} (h : av_C b σ S) {a i x : Nat} (ha : 9 ≤ a) : av_C b σ (av_st S a i x) := ⟨fun a' t h1 h2 => by rw [av_st_a _ (by omega)]; exact h.1 a' t h1 h2, fun j hj => by rw [av_st_a _ (by omega)]; exact h.2 j hj⟩
theorem av_M.far {k : Nat} {σ : lb_Mem} {S : av_V} (h : av_M k σ S) {a i x : Nat} (ha : 9 ≤ a) : av_M k σ (av_st S a i x) := ⟨fun a' t h1 h2 => by rw [av_st_a _ (by omega)]; exact h.1 a' t h1 h2, fun a' p h1 h2 => by rw [av_st_a _ (by omega)]; exact h.2.1 a' p h1 h2, fun j hj => by rw [av_st_a _ (by omega)]; exact h.2.2 j hj⟩
theorem av_W.far {S : av_V} (h : av_W S) {a i x : Nat} (ha : 9 ≤ a) : av_W (av_st S a i x) := by
  have e : ∀ b j, b < 9 → av_st S a i x b j = S b j := fun b j hb => av_st_a _ (by omega) _ _ _
  refine ⟨by rw [e 8 0 (by decide)]; exact h.1, by rw [e 8 1 (by decide)]; exact h.2.1, fun t ht => ?_, fun t ht => ?_, fun p hp => ?_⟩
  · rw [e 0 t (by decide), e 1 t (by decide), e 2 t (by decide), e 3 t (by decide), e 4 t (by decide), e 5 t (by decide)]; exact h.2.2.1 t ht
  · rw [e 5 t (by decide), e 8 1 (by decide)]; rw [e 8 0 (by decide)] at ht; exact h.2.2.2.1 t ht
  · rw [e 6 p (by decide), e 7 p (by decide)]; exact h.2.2.2.2 p hp
theorem rs_W.ref {S : av_V} (h : rs_W S) (j : Nat) : rs_W (rs_ref S j) := by
  obtain ⟨h1, h2, h3, h4, h5, h6, h7, h8, h9⟩ := h
  unfold rs_ref
  refine ⟨h1.far (by decide), ?_, by rw [rs_kv_st (by decide)]; exact h3, ?_, ?_, ?_, ?_, fun i => ?_, fun i => ?_⟩ <;> rw [av_st_a _ (by decide)] <;> first | assumption | exact h8 i | exact h9 i
theorem lb_ngD : ∀ j, j < 7 → - (-(nI j)) = nI j := by decide +kernel
theorem lb_ng0D : ∀ j, j < 7 → ((-(nI j) = (0 : Int32)) ↔ j = 0) := by decide +kernel
theorem pc_refuse {σ : lb_Mem} {S : av_V} (h : rs_C σ S) {j : Nat} (hj : j < 7) : rs_cl σ (f_X8_refuse (-(nI j)) σ) (-(nI j)) (rs_ref S j) := by
  obtain ⟨h1, h2, h3, h4, h5, h6, h7, h8⟩ := h
  unfold f_X8_refuse
  rw [lb_ngD j hj, lb_ixN hj (by decide), lb_chkT, lb_chkT, lb_letS, lb_cl (by omega), h8 j hj, show nI (S 12 j) + 1 = nI (S 12 j + 1) from nI_1 _]
  refine ⟨_, rfl, ⟨(h1.far (by decide)).cong (fun k a b => lb_sto_o (by omega)), ?_, ?_, ?_, ?_, fun i hi => ?_, fun i hi => ?_, fun i hi => ?_⟩, fun k hk => lb_sto_o (by omega)⟩
  · unfold rs_ref; rw [rs_kv_st (by decide)]; exact h2.cong (fun k a b => lb_sto_o (by omega))
  · rw [lb_sto_o (by decide), rs_ref, av_st_a _ (by decide)]; exact h3
  · rw [lb_sto_o (by decide), rs_ref, av_st_a _ (by decide)]; exact h4
  · rw [lb_sto_o (by decide), rs_ref, av_st_a _ (by decide)]; exact h5
  · rw [lb_sto_o (by decide), rs_ref, av_st_a _ (by decide)]; exact h6 i hi
  · rw [lb_sto_o (by decide), rs_ref, av_st_a _ (by decide)]; exact h7 i hi
  · by_cases e : i = j
    · subst e; rw [lb_sto_s, rs_ref, av_st_s]
    · rw [lb_sto_i e, rs_ref, av_st_i _ e]; exact h8 i hi
theorem pn_no {σ : lb_Mem} {S : av_V} (h : rs_M σ S) {j : Nat} (hj : j < 7) : rs_mo σ (f_X9_no (-(nI j)) σ) (-(nI j)) (rs_ref S j) := by
  obtain ⟨h1, h2, h3, h4, h5, h6, h7, h8⟩ := h
  unfold f_X9_no
  rw [lb_ngD j hj, lb_ixN hj (by decide), lb_chkT, lb_chkT, lb_letS, lb_cl (by omega), h8 j hj, show nI (S 12 j) + 1 = nI (S 12 j + 1) from nI_1 _]
  refine ⟨_, rfl, ⟨(h1.far (by decide)).cong (lb_sto_o (by decide)), ?_, ?_, ?_, ?_, fun i hi => ?_, fun i hi => ?_, fun i hi => ?_⟩, fun k hk => lb_sto_o (by omega)⟩
  · unfold rs_ref; rw [rs_kv_st (by decide)]; exact h2.cong (lb_sto_o (by decide))
  · rw [lb_sto_o (by decide), rs_ref, av_st_a _ (by decide)]; exact h3
  · rw [lb_sto_o (by decide), rs_ref, av_st_a _ (by decide)]; exact h4
  · rw [lb_sto_o (by decide), rs_ref, av_st_a _ (by decide)]; exact h5
  · rw [lb_sto_o (by decide), rs_ref, av_st_a _ (by decide)]; exact h6 i hi
  · rw [lb_sto_o (by decide), rs_ref, av_st_a _ (by decide)]; exact h7 i hi
  · by_cases e : i = j
    · subst e; rw [lb_sto_s, rs_ref, av_st_s]
    · rw [lb_sto_i e, rs_ref, av_st_i _ e]; exact h8 i hi
/-! faults: 0 none, else the refusal's number -/
def ft_p (S : av_V) (x : Int32) : Nat := if x < 0 ∨ nI (S 8 0) ≤ x then 1 else 0
def ft_q (S : av_V) (x : Int32) : Nat := if x < 0 ∨ nI (S 8 1) ≤ x then 1 else 0
def ft_w (x a b : Int32) : Nat := if x < a then 4 else if b < x then 6 else 0
def ft_k (x m : Int32) : Nat := if x < 0 ∨ m < x then 2 else 0
def ft_f (i j : Nat) : Nat := if i = 0 then j else i
theorem ft_p7 (S : av_V) (x : Int32) : ft_p S x < 7 := by unfold ft_p; split <;> omega
theorem ft_q7 (S : av_V) (x : Int32) : ft_q S x < 7 := by unfold ft_q; split <;> omega
theorem ft_w7 (x a b : Int32) : ft_w x a b < 7 := by unfold ft_w; split <;> (try split) <;> omega
theorem ft_k7 (x m : Int32) : ft_k x m < 7 := by unfold ft_k; split <;> omega
theorem ft_f7 {i j : Nat} (h1 : i < 7) (h2 : j < 7) : ft_f i j < 7 := by unfold ft_f; split <;> omega
theorem ft_f0 {i j : Nat} (h : ft_f i j = 0) : i = 0 ∧ j = 0 := by unfold ft_f at h; split at h <;> omega
theorem lb_ofn {x : Int32} (h : ¬ x < 0) : ∃ j : Nat, j < 2147483648 ∧ x = nI j := by
  obtain ⟨j, h1, h2⟩ := nI_of h
  exact ⟨j, by omega, h2⟩
theorem ft_p0 {S : av_V} {x : Int32} (hw : av_W S) (h : ft_p S x = 0) : ∃ t, t < S 8 0 ∧ x = nI t := by
  unfold ft_p at h
  by_cases c : x < 0 ∨ nI (S 8 0) ≤ x
  · rw [if_pos c] at h; cases h
  · obtain ⟨j, hj, rfl⟩ := lb_ofn (fun z => c (Or.inl z))
    have := hw.1
    refine ⟨j, ?_, rfl⟩
    have h2 : ¬ nI (S 8 0) ≤ nI j := fun z => c (Or.inr z)
    rw [lb_le (by omega) hj] at h2
    omega
theorem ft_q0 {S : av_V} {x : Int32} (hw : av_W S) (h : ft_q S x = 0) : ∃ t, t < S 8 1 ∧ x = nI t := by
  unfold ft_q at h
  by_cases c : x < 0 ∨ nI (S 8 1) ≤ x
  · rw [if_pos c] at h; cases h
  · obtain ⟨j, hj, rfl⟩ := lb_ofn (fun z => c (Or.inl z))
    have := hw.2.1
    refine ⟨j, ?_, rfl⟩
    have h2 : ¬ nI (S 8 1) ≤ nI j := fun z => c (Or.inr z)
    rw [lb_le (by omega) hj] at h2
    omega
theorem ft_w0 {x : Int32} {a b : Nat} (ha : a < 2147483648) (hb : b < 2147483648) (h : ft_w x (nI a) (nI b) = 0) : ∃ n, a ≤ n ∧ n ≤ b ∧ x = nI n := by
  unfold ft_w at h
  by_cases c1 : x < nI a
  · rw [if_pos c1] at h; cases h
  · rw [if_neg c1] at h
    by_cases c2 : nI b < x
    · rw [if_pos c2] at h; cases h
    · have c3 : ¬ x < 0 := by
        intro z
        apply c1
        rw [Int32.lt_iff_toInt_lt] at z ⊢
        rw [nI_toInt (by omega)]
        have : (0 : Int32).toInt = 0 := rfl
        omega
      obtain ⟨j, hj, rfl⟩ := lb_ofn c3
      rw [lb_lt (by omega) (by omega)] at c1 c2
      exact ⟨j, by omega, by omega, rfl⟩
theorem ft_k0 {x : Int32} {m : Nat} (hm : m < 2147483648) (h : ft_k x (nI m) = 0) : ∃ n, n ≤ m ∧ x = nI n := by
  unfold ft_k at h
  by_cases c : x < 0 ∨ nI m < x
  · rw [if_pos c] at h; cases h
  · obtain ⟨j, hj, rfl⟩ := lb_ofn (fun z => c (Or.inl z))
    have h2 : ¬ nI m < nI j := fun z => c (Or.inr z)
    rw [lb_lt (by omega) hj] at h2
    exact ⟨j, by omega, rfl⟩
theorem pc_hasPot {σ : lb_Mem} {S : av_V} (h : rs_C σ S) (x : Int32) : f_X7_hasPot σ 1 x = if ft_p S x = 0 then 1 else 0 := by
  unfold f_X7_hasPot ft_p
  rw [h.1.np]
  by_cases c1 : x < 0
  · rw [if_pos c1, if_pos (Or.inl c1)]; rfl
  · rw [if_neg c1]
    by_cases c2 : nI (S 8 0) ≤ x
    · rw [if_pos c2, if_pos (Or.inr c2)]; rfl
    · rw [if_neg c2, if_pos (if_neg (fun z => z.elim c1 c2))]
theorem pc_hasPerson {σ : lb_Mem} {S : av_V} (h : rs_C σ S) (x : Int32) : f_X7_hasPerson σ 1 x = if ft_q S x = 0 then 1 else 0 := by
  unfold f_X7_hasPerson ft_q
  rw [h.1.nn]
  by_cases c1 : x < 0
  · rw [if_pos c1, if_pos (Or.inl c1)]; rfl
  · rw [if_neg c1]
    by_cases c2 : nI (S 8 1) ≤ x
    · rw [if_pos c2, if_pos (Or.inr c2)]; rfl
    · rw [if_neg c2, if_pos (if_neg (fun z => z.elim c1 c2))]
theorem pc_potThere {σ : lb_Mem} {S : av_V} (h : rs_C σ S) (x : Int32) : f_X8_potThere σ x = -(nI (ft_p S x)) := by
  unfold f_X8_potThere
  rw [pc_hasPot h]
  unfold ft_p
  split <;> rfl
theorem pc_personThere {σ : lb_Mem} {S : av_V} (h : rs_C σ S) (x : Int32) : f_X8_personThere σ x = -(nI (ft_q S x)) := by
  unfold f_X8_personThere
  rw [pc_hasPerson h]
  unfold ft_q
  split <;> rfl
theorem pc_within (x a b : Int32) : f_X8_within x a b = -(nI (ft_w x a b)) := by
  unfold f_X8_within ft_w
  by_cases c1 : x < a
  · rw [if_neg (Int32.not_le.mpr c1), if_pos c1]; rfl
  · rw [if_pos (Int32.not_lt.mp c1), if_neg c1]
    by_cases c2 : b < x
    · rw [if_neg (Int32.not_le.mpr c2), if_pos c2]; rfl
    · rw [if_pos (Int32.not_lt.mp c2), if_neg c2]; rfl
theorem pc_known (x m : Int32) : f_X8_known x m = -(nI (ft_k x m)) := by
  unfold f_X8_known ft_k
  by_cases c1 : x < 0
  · rw [if_pos c1, if_pos (Or.inl c1)]; rfl
  · rw [if_neg c1]
    by_cases c2 : m < x
    · rw [if_neg (Int32.not_le.mpr c2), if_pos (Or.inr c2)]; rfl
    · rw [if_pos (Int32.not_lt.mp c2), if_neg (fun z => z.elim c1 c2)]; rfl
theorem pc_first {i j : Nat} (h : i < 7) : f_X8_first (-(nI i)) (-(nI j)) = -(nI (ft_f i j)) := by
  unfold f_X8_first ft_f
  by_cases c : i = 0
  · rw [if_pos c, if_pos ((lb_ng0D i h).mpr c)]
  · rw [if_neg c, if_neg (fun z => c ((lb_ng0D i h).mp z))]
theorem pn_isPot {σ : lb_Mem} {S : av_V} (h : rs_M σ S) (hw : av_W S) (x : Int32) : f_X9_isPot σ x = if ft_p S x = 0 then 1 else 0 := by
  have h0 := hw.1
  unfold f_X9_isPot f_X9_isIn ft_p
  rw [show (0 : Int32).toNatClampNeg = 0 from rfl, h.1.np]
  by_cases c1 : x < 0
  · rw [if_pos c1, if_pos (Or.inl c1)]; rfl
  · rw [if_neg c1]
    obtain ⟨j, hj, rfl⟩ := lb_ofn c1
    have e : (nI (S 8 0) - 1 < nI j) ↔ (nI (S 8 0) ≤ nI j) := by
      rw [Int32.lt_iff_toInt_lt, Int32.le_iff_toInt_le, show (1 : Int32) = nI 1 from rfl, pk_sub_toInt (by omega) (by omega), nI_toInt (by omega), nI_toInt (by omega)]
      omega
    by_cases c2 : nI (S 8 0) ≤ nI j
    · rw [if_pos (e.mpr c2), if_pos (Or.inr c2)]; rfl
    · rw [if_neg (fun z => c2 (e.mp z)), if_pos (if_neg (fun z => z.elim c1 c2))]
theorem pn_isPerson {σ : lb_Mem} {S : av_V} (h : rs_M σ S) (hw : av_W S) (x : Int32) : f_X9_isPerson σ x = if ft_q S x = 0 then 1 else 0 := by
  have h0 := hw.2.1
  unfold f_X9_isPerson f_X9_isIn ft_q
  rw [show (1 : Int32).toNatClampNeg = 1 from rfl, h.1.nn]
  by_cases c1 : x < 0
  · rw [if_pos c1, if_pos (Or.inl c1)]; rfl
  · rw [if_neg c1]
    obtain ⟨j, hj, rfl⟩ := lb_ofn c1
    have e : (nI (S 8 1) - 1 < nI j) ↔ (nI (S 8 1) ≤ nI j) := by
      rw [Int32.lt_iff_toInt_lt, Int32.le_iff_toInt_le, show (1 : Int32) = nI 1 from rfl, pk_sub_toInt (by omega) (by omega), nI_toInt (by omega), nI_toInt (by omega)]
      omega
    by_cases c2 : nI (S 8 1) ≤ nI j
    · rw [if_pos (e.mpr c2), if_pos (Or.inr c2)]; rfl
    · rw [if_neg (fun z => c2 (e.mp z)), if_pos (if_neg (fun z => z.elim c1 c2))]
