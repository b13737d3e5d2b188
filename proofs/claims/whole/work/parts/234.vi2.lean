/-! the model reads -/
def vL (σ0 : lb_Mem) (S : av_V) : Prop := σ0 53 8 = nI (S 9 1) ∧ ∀ i, i < 96 → σ0 58 i = nI (S 10 i)
def pl (σ0 : lb_Mem) (x : Nat) (σ : lb_Mem) : Prop := (∀ k, k ≠ 61 → k ≠ 53 → σ k = σ0 k) ∧ (∀ i, i ≠ 10 → σ 53 i = σ0 53 i) ∧ σ 53 10 = nI x
theorem pl.place {σ0 σ : lb_Mem} {x : Nat} (h : pl σ0 x σ) (y : Nat) : pl σ0 y (lb_sto σ 53 10 (nI y)) := ⟨fun k h1 h2 => (lb_sto_o h2).trans (h.1 k h1 h2), fun i hi => (lb_sto_i hi).trans (h.2.1 i hi), lb_sto_s _ _ _ _⟩
theorem pl.num {σ0 σ : lb_Mem} {x : Nat} (h : pl σ0 x σ) (k : Nat) (v : Int32) : pl σ0 x (lb_sto σ 61 k v) := ⟨fun k h1 h2 => (lb_sto_o h1).trans (h.1 k h1 h2), fun i hi => by rw [lb_sto_o (by decide)]; exact h.2.1 i hi, by rw [lb_sto_o (by decide)]; exact h.2.2⟩
def hr (S : av_V) (x : Nat) : Int32 := if x < S 9 1 then nI (S 10 x) else -1
theorem pn_here {σ0 σ : lb_Mem} {S : av_V} {x : Nat} (hL : vL σ0 S) (hw : rs_W S) (h : pl σ0 x σ) (hx : x < 1000) : f_X9_here σ = some (hr S x) := by
  have h96 := hw.2.2.2.2.2.1
  unfold f_X9_here hr
  rw [h.2.1 8 (by decide), hL.1, h.2.2]
  by_cases c : x < S 9 1
  · rw [if_pos c, if_neg (by rw [lb_le (by omega) (by omega)]; omega), lb_ixN (show x < 96 by omega) (by decide), lb_chkT, lb_cl (by omega), h.1 58 (by decide) (by decide), hL.2 x (by omega)]
  · rw [if_neg c, if_pos (by rw [lb_le (by omega) (by omega)]; omega)]
theorem hrD : ∀ l, l < 256 → f_X9_isIn (nI l) (48 : Int32) (57 : Int32) = (if vd l = true then 1 else 0) := by decide +kernel
theorem hr_c {S : av_V} (hw : rs_W S) {x : Nat} : hr S x = nI (vl S x) ∧ vl S x < 256 ∨ hr S x = -1 ∧ vl S x = 0 := by
  unfold hr vl
  by_cases c : x < S 9 1
  · rw [if_pos c, if_pos c]; exact Or.inl ⟨rfl, by have := hw.2.2.2.2.2.2.2.1 x; omega⟩
  · rw [if_neg c, if_neg c]; exact Or.inr ⟨rfl, rfl⟩
theorem hr_dig {S : av_V} (hw : rs_W S) (x : Nat) : f_X9_isIn (hr S x) (48 : Int32) (57 : Int32) = (if vd (vl S x) = true then 1 else 0) := by
  rcases hr_c hw (x := x) with ⟨a, b⟩ | ⟨a, b⟩
  · rw [a]; exact hrD _ b
  · rw [a, b]; decide
theorem hr_eqD : ∀ l, l < 256 → ∀ k, k < 256 → (nI l = nI k ↔ l = k) := fun l hl k hk => by rw [lb_eq (by omega) (by omega)]
theorem hr_eq {S : av_V} (hw : rs_W S) (x : Nat) {k : Nat} (h1 : 1 ≤ k) (h2 : k < 256) : hr S x = nI k ↔ vl S x = k := by
  rcases hr_c hw (x := x) with ⟨a, b⟩ | ⟨a, b⟩
  · rw [a]; exact hr_eqD _ b _ h2
  · rw [a, b]
    constructor
    · intro z
      exfalso
      have z2 : nI k < 0 := by rw [← z]; decide
      exact nI_pos (by omega) z2
    · intro z; omega
theorem hr_dv {S : av_V} (hw : rs_W S) {x : Nat} (h : vd (vl S x) = true) : hr S x = nI (vl S x) ∧ 48 ≤ vl S x ∧ vl S x ≤ 57 := by
  have h2 := of_decide_eq_true h
  rcases hr_c hw (x := x) with ⟨a, b⟩ | ⟨a, b⟩
  · exact ⟨a, h2⟩
  · omega
def vkM : Option Nat → Int32
  | none => -9
  | some k => nI k
theorem hkD : ∀ l, l < 256 → f_X9_kindBy (nI l) = vkM (vk l) := by decide +kernel
theorem hr_kind {S : av_V} (hw : rs_W S) (x : Nat) : f_X9_kindBy (hr S x) = vkM (vk (vl S x)) := by
  rcases hr_c hw (x := x) with ⟨a, b⟩ | ⟨a, b⟩
  · rw [a]; exact hkD _ b
  · rw [a, b]; decide
def dg (S : av_V) (x : Nat) : Nat := vl S x - 48
theorem pn_numS {σ0 s : lb_Mem} {S : av_V} {x k w j a : Nat} (hL : vL σ0 S) (hw : rs_W S) (h : pl σ0 x s) (hx : x < 1000) (hk : k < 6) (hww : w ≤ 2) (hj : j ≤ 2) (ha : s 61 k = nI a) (n : Nat) : f_X9_readsNumber_9 (n + 1) (nI k) (nI w) (nI j) s = if w ≤ j then some ((1 : Int32), s) else if vd (vl S x) = true then f_X9_readsNumber_9 n (nI k) (nI w) (nI (j + 1)) (lb_sto (lb_sto s 61 k (nI (10 * a + dg S x))) 53 10 (nI (x + 1))) else some ((0 : Int32), s) := by
  rw [f_X9_readsNumber_9, pn_here hL hw h hx, lb_bndS, lb_bndS, hr_dig hw]
  by_cases c : w ≤ j
  · rw [if_pos c, if_pos (by rw [lb_le (by omega) (by omega)]; exact c)]
  · rw [if_neg c, if_neg (by rw [lb_le (by omega) (by omega)]; exact c)]
    by_cases d : vd (vl S x) = true
    · obtain ⟨e1, e2, e3⟩ := hr_dv hw d
      rw [if_pos d, if_pos d, if_neg (by decide), lb_ixN hk (by decide), lb_chkT, lb_chkT, lb_letS, lb_letS, lb_cl (by omega), ha, e1, lb_k10, lb_ml1, lb_ad1, lb_k48, lb_sb1 (by omega), lb_sto_o (show 53 ≠ 61 by decide), h.2.2, show nI x + (1 : Int32) = nI (x + 1) from nI_1 _, show nI j + 1 = nI (j + 1) from nI_1 _, show 10 * a + vl S x - 48 = 10 * a + dg S x by unfold dg; omega]
    · rw [if_neg d, if_neg d, if_pos rfl]
theorem pn_num1 {σ0 s : lb_Mem} {S : av_V} {x k : Nat} (hL : vL σ0 S) (hw : rs_W S) (h : pl σ0 x s) (hx : x < 1000) (hk : k < 6) : (vd (vl S x) = true → ∃ s', f_X9_readsNumber (nI k) (1 : Int32) s = some ((1 : Int32), s') ∧ pl σ0 (x + 1) s' ∧ s' 61 k = nI (dg S x) ∧ ∀ j, j ≠ k → s' 61 j = s 61 j) ∧ (¬ vd (vl S x) = true → ∃ s', f_X9_readsNumber (nI k) (1 : Int32) s = some ((0 : Int32), s') ∧ pl σ0 x s') := by
  have h0 : pl σ0 x (lb_sto s 61 k (nI 0)) := h.num k _
  have e0 : f_X9_readsNumber (nI k) (1 : Int32) s = f_X9_readsNumber_9 (299 + 1) (nI k) (nI 1) (nI 0) (lb_sto s 61 k (nI 0)) := by
    unfold f_X9_readsNumber
    rw [lb_ixN hk (by decide), lb_chkT, lb_letS, lb_cl (by omega)]
    rfl
  rw [e0, pn_numS hL hw h0 hx hk (by decide) (by decide) (lb_sto_s _ _ _ _), if_neg (by decide)]
  constructor
  · intro d
    have h1 := (h0.num k (nI (10 * 0 + dg S x))).place (x + 1)
    rw [if_pos d, show (299 : Nat) = 298 + 1 from rfl]
    rw [f_X9_readsNumber_9, if_pos (by decide)]
    exact ⟨_, rfl, h1, by rw [lb_sto_o (by decide), lb_sto_s]; rw [show 10 * 0 + dg S x = dg S x by omega], fun j hj => by rw [lb_sto_o (by decide), lb_sto_i hj, lb_sto_i hj]⟩
  · intro d
    rw [if_neg d]
    exact ⟨_, rfl, h0⟩
theorem pn_num2 {σ0 s : lb_Mem} {S : av_V} {x : Nat} (hL : vL σ0 S) (hw : rs_W S) (h : pl σ0 x s) (hx : x < 900) : (¬ vd (vl S x) = true → ∃ s', f_X9_readsNumber (0 : Int32) (2 : Int32) s = some ((0 : Int32), s') ∧ pl σ0 x s') ∧ (vd (vl S x) = true → ¬ vd (vl S (x + 1)) = true → ∃ s', f_X9_readsNumber (0 : Int32) (2 : Int32) s = some ((0 : Int32), s') ∧ pl σ0 (x + 1) s') ∧ (vd (vl S x) = true → vd (vl S (x + 1)) = true → ∃ s', f_X9_readsNumber (0 : Int32) (2 : Int32) s = some ((1 : Int32), s') ∧ pl σ0 (x + 2) s' ∧ s' 61 0 = nI (10 * dg S x + dg S (x + 1))) := by
  have h0 : pl σ0 x (lb_sto s 61 0 (nI 0)) := h.num 0 _
  have e0 : f_X9_readsNumber (0 : Int32) (2 : Int32) s = f_X9_readsNumber_9 (299 + 1) (nI 0) (nI 2) (nI 0) (lb_sto s 61 0 (nI 0)) := by
    unfold f_X9_readsNumber
    rw [show lb_ix (0 : Int32) 6 = true from rfl, lb_chkT, lb_letS]
    rfl
  rw [e0, pn_numS hL hw h0 (by omega) (by decide) (by decide) (by decide) (lb_sto_s _ _ _ _), if_neg (by decide)]
  have h1 := (h0.num 0 (nI (10 * 0 + dg S x))).place (x + 1)
  have g1 : (lb_sto (lb_sto (lb_sto s 61 0 (nI 0)) 61 0 (nI (10 * 0 + dg S x))) 53 10 (nI (x + 1))) 61 0 = nI (dg S x) := by rw [lb_sto_o (by decide), lb_sto_s, show 10 * 0 + dg S x = dg S x by omega]
  refine ⟨fun d => ?_, fun d d2 => ?_, fun d d2 => ?_⟩
  · rw [if_neg d]; exact ⟨_, rfl, h0⟩
  · rw [if_pos d, show (299 : Nat) = 298 + 1 from rfl, pn_numS hL hw h1 (by omega) (by decide) (by decide) (by decide) g1, if_neg (by decide), if_neg d2]
    exact ⟨_, rfl, h1⟩
  · rw [if_pos d, show (299 : Nat) = 298 + 1 from rfl, pn_numS hL hw h1 (by omega) (by decide) (by decide) (by decide) g1, if_neg (by decide), if_pos d2, show (298 : Nat) = 297 + 1 from rfl]
    rw [f_X9_readsNumber_9, if_pos (by decide)]
    exact ⟨_, rfl, (h1.num 0 _).place (x + 2), by rw [lb_sto_o (by decide), lb_sto_s]⟩
/-- how a reading comes out -/
def rdO (σ0 : lb_Mem) (o : Option (Int32 × lb_Mem)) (r : Nat ⊕ Unit) (e : Nat) (N : lb_Mem → Prop) : Prop := match r with
  | .inl q => ∃ σ', o = some ((0 : Int32), σ') ∧ pl σ0 q σ'
  | .inr _ => ∃ σ', o = some ((1 : Int32), σ') ∧ pl σ0 e σ' ∧ N σ'
theorem rdO.imp {σ0 : lb_Mem} {o : Option (Int32 × lb_Mem)} {r : Nat ⊕ Unit} {e : Nat} {N N' : lb_Mem → Prop} (h : rdO σ0 o r e N) (f : ∀ σ', N σ' → N' σ') : rdO σ0 o r e N' := by
  cases r with
  | inl q => exact h
  | inr u => obtain ⟨σ', a, b, c⟩ := h; exact ⟨σ', a, b, f σ' c⟩
theorem rd_end {σ0 s : lb_Mem} {S : av_V} {x e : Nat} {P : Nat → Bool} {N : lb_Mem → Prop} (hL : vL σ0 S) (hw : rs_W S) (h : pl σ0 x s) (hx : x < 1000) (hP : P x = decide (¬ vl S x = 59)) (he : e = x + 1) (hN : ∀ σ', (∀ k, k ≠ 53 → σ' k = s k) → N σ') : rdO σ0 (f_X9_readsStatement_232 (1 : Int32) s) (frn P x 1) e N := by
  rw [f_X9_readsStatement_232, if_neg (by decide), pn_here hL hw h hx, lb_bndS, frn, frn, hP]
  by_cases c : vl S x = 59
  · rw [if_pos (show hr S x = 59 from (hr_eq hw x (k := 59) (by decide) (by decide)).mpr c), if_neg (by simpa using c), lb_letS, h.2.2, show nI x + (1 : Int32) = nI (x + 1) from nI_1 _]
    exact ⟨_, rfl, by rw [he]; exact h.place (x + 1), hN _ (fun k hk => lb_sto_o hk)⟩
  · rw [if_neg (show ¬ hr S x = 59 from fun z => c ((hr_eq hw x (k := 59) (by decide) (by decide)).mp z)), if_pos (by simpa using c)]
    exact ⟨_, rfl, h⟩
theorem rd_dig {σ0 s : lb_Mem} {S : av_V} {x k n e : Nat} {P : Nat → Bool} {N : lb_Mem → Prop} {F G : lb_Mem → Option (Int32 × lb_Mem)} (hL : vL σ0 S) (hw : rs_W S) (h : pl σ0 x s) (hx : x < 1000) (hk : k < 6) (hP : P x = !vd (vl S x)) (hF : ∀ σ, F σ = some ((0 : Int32), σ)) (hG : ∀ s', pl σ0 (x + 1) s' → s' 61 k = nI (dg S x) → (∀ j, j ≠ k → s' 61 j = s 61 j) → rdO σ0 (G s') (frn P (x + 1) n) e N) : rdO σ0 ((f_X9_readsNumber (nI k) (1 : Int32) s).bind (fun q => if q.1 = 0 then F q.2 else G q.2)) (frn P x (n + 1)) e N := by
  obtain ⟨a, b⟩ := pn_num1 hL hw h hx hk
  rw [frn, hP]
  by_cases c : vd (vl S x) = true
  · obtain ⟨s', e1, e2, e3, e4⟩ := a c
    rw [e1, lb_bndS, if_neg (show ¬ (1 : Int32) = 0 by decide), if_neg (by rw [c]; decide)]
    exact hG s' e2 e3 e4
  · obtain ⟨s', e1, e2⟩ := b c
    rw [e1, lb_bndS, if_pos (show (0 : Int32) = 0 from rfl), hF, if_pos (by simp at c; rw [c]; rfl)]
    exact ⟨_, rfl, e2⟩
theorem vB_d {S : av_V} {x q : Nat} (h1 : ¬ q + 1 = x + vn (vl S x)) (h2 : ¬ (q = x + 1 ∧ vl S x = 106)) : vB S x q = !vd (vl S q) := by unfold vB; rw [if_neg h1, if_neg h2]
theorem vB_e {S : av_V} {x q : Nat} (h1 : q + 1 = x + vn (vl S x)) : vB S x q = decide (¬ vl S q = 59) := by unfold vB; rw [if_pos h1]
theorem vB_k {S : av_V} {x q : Nat} (h1 : ¬ q + 1 = x + vn (vl S x)) (h2 : q = x + 1 ∧ vl S x = 106) : vB S x q = (vk (vl S q)).isNone := by unfold vB; rw [if_neg h1, if_pos h2]
def n2 (S : av_V) (x : Nat) (σ' : lb_Mem) : Prop := σ' 61 0 = nI (dg S (x + 1)) ∧ σ' 61 1 = nI (dg S (x + 2))
def n6 (S : av_V) (x : Nat) (σ' : lb_Mem) : Prop := (∃ k, vk (vl S (x + 1)) = some k ∧ σ' 61 0 = nI k) ∧ ∀ j, 1 ≤ j → j < 6 → σ' 61 j = nI (dg S (x + 1 + j))
def nS (S : av_V) (x : Nat) (σ' : lb_Mem) : Prop := if vl S x = 106 then n6 S x σ' else if vl S x = 112 then σ' 61 0 = nI (dg S (x + 1)) else if vl S x = 121 then σ' 61 0 = nI (10 * dg S (x + 1) + dg S (x + 2)) else n2 S x σ'
theorem rd_two {σ0 s : lb_Mem} {S : av_V} {x : Nat} (hL : vL σ0 S) (hw : rs_W S) (h : pl σ0 (x + 1) s) (hx : x < 900) (h4 : vn (vl S x) = 4) (h6 : ¬ vl S x = 106) : rdO σ0 ((f_X9_readsNumber (0 : Int32) (1 : Int32) s).bind (fun q186 => if q186.1 = 0 then f_X9_readsStatement_205 q186.2 else (f_X9_readsNumber (1 : Int32) (1 : Int32) q186.2).bind (fun q195 => if q195.1 = 0 then f_X9_readsStatement_205 q195.2 else f_X9_readsStatement_206 q195.2 (1 : Int32)))) (frn (vB S x) (x + 1) 3) (x + 4) (n2 S x) := by
  refine rd_dig (k := 0) hL hw h (by omega) (by decide) (vB_d (by omega) (by omega)) (F := f_X9_readsStatement_205) (G := fun s => (f_X9_readsNumber (1 : Int32) (1 : Int32) s).bind (fun q195 => if q195.1 = 0 then f_X9_readsStatement_205 q195.2 else f_X9_readsStatement_206 q195.2 (1 : Int32))) (fun σ => rfl) (fun s1 p1 v1 o1 => ?_)
  refine rd_dig (k := 1) hL hw p1 (by omega) (by decide) (vB_d (by omega) (by omega)) (F := f_X9_readsStatement_205) (G := fun s => f_X9_readsStatement_206 s (1 : Int32)) (fun σ => rfl) (fun s2 p2 v2 o2 => ?_)
  exact rd_end hL hw p2 (by omega) (vB_e (by omega)) (by omega) (fun σ' hσ => ⟨by rw [hσ 61 (by decide), o2 0 (by decide)]; exact v1, by rw [hσ 61 (by decide)]; exact v2⟩)
theorem rd_six {σ0 s : lb_Mem} {S : av_V} {x : Nat} (hL : vL σ0 S) (hw : rs_W S) (h : pl σ0 (x + 1) s) (hx : x < 900) (h6 : vl S x = 106) : rdO σ0 ((f_X9_readsKind s).bind (fun q123 => if q123.1 = 0 then f_X9_readsStatement_178 q123.2 else (f_X9_readsNumber (1 : Int32) (1 : Int32) q123.2).bind (fun q132 => if q132.1 = 0 then f_X9_readsStatement_178 q132.2 else (f_X9_readsNumber (2 : Int32) (1 : Int32) q132.2).bind (fun q141 => if q141.1 = 0 then f_X9_readsStatement_178 q141.2 else (f_X9_readsNumber (3 : Int32) (1 : Int32) q141.2).bind (fun q150 => if q150.1 = 0 then f_X9_readsStatement_178 q150.2 else (f_X9_readsNumber (4 : Int32) (1 : Int32) q150.2).bind (fun q159 => if q159.1 = 0 then f_X9_readsStatement_178 q159.2 else (f_X9_readsNumber (5 : Int32) (1 : Int32) q159.2).bind (fun q168 => if q168.1 = 0 then f_X9_readsStatement_178 q168.2 else f_X9_readsStatement_179 q168.2 (1 : Int32)))))))) (frn (vB S x) (x + 1) 7) (x + 8) (n6 S x) := by
  have h8 : vn (vl S x) = 8 := by rw [h6]; rfl
  have e0 : f_X9_readsKind s = f_X9_readsKind_32 (lb_sto s 61 0 (vkM (vk (vl S (x + 1))))) (nI (x + 1)) (if 0 ≤ vkM (vk (vl S (x + 1))) then 1 else 0) := by
    unfold f_X9_readsKind
    rw [pn_here hL hw h (by omega), lb_bndS, hr_kind hw, lb_letS, show (0 : Int32).toNatClampNeg = 0 from rfl, lb_sto_s, lb_sto_o (show 53 ≠ 61 by decide), h.2.2]
    split <;> rfl
  rw [e0, f_X9_readsKind_32, lb_letS, show (0 : Int32).toNatClampNeg = 0 from rfl, lb_sto_o (show 61 ≠ 53 by decide), lb_sto_s, frn, vB_k (by omega) ⟨rfl, h6⟩]
  cases hk : vk (vl S (x + 1)) with
  | none =>
    rw [if_pos (show vkM none < 0 by decide), lb_bndS, if_pos (show (0 : Int32) = 0 from rfl), if_pos (show (none : Option Nat).isNone = true from rfl), if_neg (show ¬ 0 ≤ vkM none by decide)]
    refine ⟨_, rfl, ?_⟩
    rw [lb_k0, lb_ad1]
    exact (h.num 0 _).place (x + 1)
  | some k =>
    have hk6 := vk6 hk
    rw [if_neg (show ¬ vkM (some k) < 0 from nI_pos (by omega)), lb_bndS, if_neg (show ¬ (1 : Int32) = 0 by decide), if_neg (show ¬ (some k).isNone = true from fun z => by cases z), if_pos (show 0 ≤ vkM (some k) from nI_pos' (by omega)), show nI (x + 1) + (1 : Int32) = nI (x + 1 + 1) from nI_1 _]
    have p0 : pl σ0 (x + 1 + 1) (lb_sto (lb_sto s 61 0 (vkM (some k))) 53 10 (nI (x + 1 + 1))) := (h.num 0 _).place (x + 1 + 1)
    have v0 : (lb_sto (lb_sto s 61 0 (vkM (some k))) 53 10 (nI (x + 1 + 1))) 61 0 = nI k := by rw [lb_sto_o (by decide), lb_sto_s]; rfl
    refine rd_dig (k := 1) hL hw p0 (by omega) (by decide) (vB_d (by omega) (by omega)) (F := f_X9_readsStatement_178) (G := fun s => (f_X9_readsNumber (2 : Int32) (1 : Int32) s).bind (fun q141 => if q141.1 = 0 then f_X9_readsStatement_178 q141.2 else (f_X9_readsNumber (3 : Int32) (1 : Int32) q141.2).bind (fun q150 => if q150.1 = 0 then f_X9_readsStatement_178 q150.2 else (f_X9_readsNumber (4 : Int32) (1 : Int32) q150.2).bind (fun q159 => if q159.1 = 0 then f_X9_readsStatement_178 q159.2 else (f_X9_readsNumber (5 : Int32) (1 : Int32) q159.2).bind (fun q168 => if q168.1 = 0 then f_X9_readsStatement_178 q168.2 else f_X9_readsStatement_179 q168.2 (1 : Int32)))))) (fun σ => rfl) (fun s1 p1 v1 o1 => ?_)
    refine rd_dig (k := 2) hL hw p1 (by omega) (by decide) (vB_d (by omega) (by omega)) (F := f_X9_readsStatement_178) (G := fun s => (f_X9_readsNumber (3 : Int32) (1 : Int32) s).bind (fun q150 => if q150.1 = 0 then f_X9_readsStatement_178 q150.2 else (f_X9_readsNumber (4 : Int32) (1 : Int32) q150.2).bind (fun q159 => if q159.1 = 0 then f_X9_readsStatement_178 q159.2 else (f_X9_readsNumber (5 : Int32) (1 : Int32) q159.2).bind (fun q168 => if q168.1 = 0 then f_X9_readsStatement_178 q168.2 else f_X9_readsStatement_179 q168.2 (1 : Int32))))) (fun σ => rfl) (fun s2 p2 v2 o2 => ?_)
    refine rd_dig (k := 3) hL hw p2 (by omega) (by decide) (vB_d (by omega) (by omega)) (F := f_X9_readsStatement_178) (G := fun s => (f_X9_readsNumber (4 : Int32) (1 : Int32) s).bind (fun q159 => if q159.1 = 0 then f_X9_readsStatement_178 q159.2 else (f_X9_readsNumber (5 : Int32) (1 : Int32) q159.2).bind (fun q168 => if q168.1 = 0 then f_X9_readsStatement_178 q168.2 else f_X9_readsStatement_179 q168.2 (1 : Int32)))) (fun σ => rfl) (fun s3 p3 v3 o3 => ?_)
    refine rd_dig (k := 4) hL hw p3 (by omega) (by decide) (vB_d (by omega) (by omega)) (F := f_X9_readsStatement_178) (G := fun s => (f_X9_readsNumber (5 : Int32) (1 : Int32) s).bind (fun q168 => if q168.1 = 0 then f_X9_readsStatement_178 q168.2 else f_X9_readsStatement_179 q168.2 (1 : Int32))) (fun σ => rfl) (fun s4 p4 v4 o4 => ?_)
    refine rd_dig (k := 5) hL hw p4 (by omega) (by decide) (vB_d (by omega) (by omega)) (F := f_X9_readsStatement_178) (G := fun s => f_X9_readsStatement_179 s (1 : Int32)) (fun σ => rfl) (fun s5 p5 v5 o5 => ?_)
    refine rd_end hL hw p5 (by omega) (vB_e (by omega)) (by omega) (fun σ' hσ => ⟨⟨k, hk, ?_⟩, fun j hj1 hj6 => ?_⟩)
    · rw [hσ 61 (by decide), o5 0 (by decide), o4 0 (by decide), o3 0 (by decide), o2 0 (by decide), o1 0 (by decide)]; exact v0
    · rw [hσ 61 (by decide)]
      obtain rfl | rfl | rfl | rfl | rfl : j = 1 ∨ j = 2 ∨ j = 3 ∨ j = 4 ∨ j = 5 := by omega
      · rw [o5 1 (by decide), o4 1 (by decide), o3 1 (by decide), o2 1 (by decide)]; exact v1
      · rw [o5 2 (by decide), o4 2 (by decide), o3 2 (by decide)]; exact v2
      · rw [o5 3 (by decide), o4 3 (by decide)]; exact v3
      · rw [o5 4 (by decide)]; exact v4
      · exact v5
theorem rd_one {σ0 s : lb_Mem} {S : av_V} {x : Nat} (hL : vL σ0 S) (hw : rs_W S) (h : pl σ0 (x + 1) s) (hx : x < 900) (h6 : vl S x = 112) : rdO σ0 ((f_X9_readsNumber (0 : Int32) (1 : Int32) s).bind (fun q115 => f_X9_readsStatement_232 q115.1 q115.2)) (frn (vB S x) (x + 1) 2) (x + 3) (fun σ' => σ' 61 0 = nI (dg S (x + 1))) := by
  have h3 : vn (vl S x) = 3 := by rw [h6]; rfl
  obtain ⟨a, b⟩ := pn_num1 (k := 0) hL hw h (by omega) (by decide)
  rw [show (0 : Int32) = nI 0 from rfl, frn, vB_d (by omega) (by omega)]
  by_cases c : vd (vl S (x + 1)) = true
  · obtain ⟨s1, e1, p1, v1, o1⟩ := a c
    rw [e1, lb_bndS, if_neg (by rw [c]; decide)]
    exact rd_end hL hw p1 (by omega) (vB_e (by omega)) (by omega) (fun σ' hσ => by rw [hσ 61 (by decide)]; exact v1)
  · obtain ⟨s1, e1, p1⟩ := b c
    rw [e1, lb_bndS, if_pos (by simp at c; rw [c]; rfl)]
    exact ⟨_, rfl, p1⟩
theorem rd_yr {σ0 s : lb_Mem} {S : av_V} {x : Nat} (hL : vL σ0 S) (hw : rs_W S) (h : pl σ0 (x + 1) s) (hx : x < 800) (h6 : vl S x = 121) : rdO σ0 ((f_X9_readsNumber (0 : Int32) (2 : Int32) s).bind (fun q213 => f_X9_readsStatement_232 q213.1 q213.2)) (frn (vB S x) (x + 1) 3) (x + 4) (fun σ' => σ' 61 0 = nI (10 * dg S (x + 1) + dg S (x + 2))) := by
  have h4 : vn (vl S x) = 4 := by rw [h6]; rfl
  obtain ⟨a, b, d⟩ := pn_num2 hL hw h (by omega)
  rw [frn, vB_d (by omega) (by omega)]
  by_cases c : vd (vl S (x + 1)) = true
  · rw [if_neg (by rw [c]; decide), frn, vB_d (by omega) (by omega)]
    by_cases c2 : vd (vl S (x + 1 + 1)) = true
    · obtain ⟨s1, e1, p1, v1⟩ := d c c2
      rw [e1, lb_bndS, if_neg (by rw [c2]; decide)]
      exact rd_end hL hw p1 (by omega) (vB_e (by omega)) (by omega) (fun σ' hσ => by rw [hσ 61 (by decide)]; exact v1)
    · obtain ⟨s1, e1, p1⟩ := b c c2
      rw [e1, lb_bndS, if_pos (by simp at c2; rw [c2]; rfl)]
      exact ⟨_, rfl, p1⟩
  · obtain ⟨s1, e1, p1⟩ := a c
    rw [e1, lb_bndS, if_pos (by simp at c; rw [c]; rfl)]
    exact ⟨_, rfl, p1⟩
theorem pn_reads {σ0 s : lb_Mem} {S : av_V} {x : Nat} (hL : vL σ0 S) (hw : rs_W S) (h : pl σ0 x s) (hx : x < 800) : rdO σ0 (f_X9_readsStatement s) (sf S x) (x + vn (vl S x)) (nS S x) := by
  have h1 : pl σ0 (x + 1) (lb_sto s 53 10 (nI (x + 1))) := h.place (x + 1)
  have hq : ∀ k, 1 ≤ k → k < 256 → (hr S x = nI k ↔ vl S x = k) := fun k a b => hr_eq hw x a b
  unfold f_X9_readsStatement sf
  rw [pn_here hL hw h (by omega), lb_bndS, h.2.2, show nI x + (1 : Int32) = nI (x + 1) from nI_1 _, lb_letS]
  by_cases c1 : vl S x = 102
  · rw [if_pos (show hr S x = 102 from (hq 102 (by decide) (by decide)).mpr c1), if_neg (show ¬ vn (vl S x) = 0 by rw [c1]; decide), show vn (vl S x) = 4 by rw [c1]; rfl]
    exact (rd_two hL hw h1 (by omega) (by rw [c1]; rfl) (by omega)).imp (fun σ' hN => by unfold nS; rw [if_neg (show ¬ vl S x = 106 by omega), if_neg (show ¬ vl S x = 112 by omega), if_neg (show ¬ vl S x = 121 by omega)]; exact hN)
  rw [if_neg (show ¬ hr S x = 102 from fun z => c1 ((hq 102 (by decide) (by decide)).mp z))]
  by_cases c2 : vl S x = 103
  · rw [if_pos (show hr S x = 103 from (hq 103 (by decide) (by decide)).mpr c2), if_neg (show ¬ vn (vl S x) = 0 by rw [c2]; decide), show vn (vl S x) = 4 by rw [c2]; rfl]
    exact (rd_two hL hw h1 (by omega) (by rw [c2]; rfl) (by omega)).imp (fun σ' hN => by unfold nS; rw [if_neg (show ¬ vl S x = 106 by omega), if_neg (show ¬ vl S x = 112 by omega), if_neg (show ¬ vl S x = 121 by omega)]; exact hN)
  rw [if_neg (show ¬ hr S x = 103 from fun z => c2 ((hq 103 (by decide) (by decide)).mp z))]
  by_cases c3 : vl S x = 106
  · rw [if_pos (show hr S x = 106 from (hq 106 (by decide) (by decide)).mpr c3), if_neg (show ¬ vn (vl S x) = 0 by rw [c3]; decide), show vn (vl S x) = 8 by rw [c3]; rfl]
    exact (rd_six hL hw h1 (by omega) c3).imp (fun σ' hN => by unfold nS; rw [if_pos c3]; exact hN)
  rw [if_neg (show ¬ hr S x = 106 from fun z => c3 ((hq 106 (by decide) (by decide)).mp z))]
  by_cases c4 : vl S x = 107
  · rw [if_pos (show hr S x = 107 from (hq 107 (by decide) (by decide)).mpr c4), if_neg (show ¬ vn (vl S x) = 0 by rw [c4]; decide), show vn (vl S x) = 4 by rw [c4]; rfl]
    exact (rd_two hL hw h1 (by omega) (by rw [c4]; rfl) (by omega)).imp (fun σ' hN => by unfold nS; rw [if_neg (show ¬ vl S x = 106 by omega), if_neg (show ¬ vl S x = 112 by omega), if_neg (show ¬ vl S x = 121 by omega)]; exact hN)
  rw [if_neg (show ¬ hr S x = 107 from fun z => c4 ((hq 107 (by decide) (by decide)).mp z))]
  by_cases c5 : vl S x = 108
  · rw [if_pos (show hr S x = 108 from (hq 108 (by decide) (by decide)).mpr c5), if_neg (show ¬ vn (vl S x) = 0 by rw [c5]; decide), show vn (vl S x) = 4 by rw [c5]; rfl]
    exact (rd_two hL hw h1 (by omega) (by rw [c5]; rfl) (by omega)).imp (fun σ' hN => by unfold nS; rw [if_neg (show ¬ vl S x = 106 by omega), if_neg (show ¬ vl S x = 112 by omega), if_neg (show ¬ vl S x = 121 by omega)]; exact hN)
  rw [if_neg (show ¬ hr S x = 108 from fun z => c5 ((hq 108 (by decide) (by decide)).mp z))]
  by_cases c6 : vl S x = 112
  · rw [if_pos (show hr S x = 112 from (hq 112 (by decide) (by decide)).mpr c6), if_neg (show ¬ vn (vl S x) = 0 by rw [c6]; decide), show vn (vl S x) = 3 by rw [c6]; rfl]
    exact (rd_one hL hw h1 (by omega) c6).imp (fun σ' hN => by unfold nS; rw [if_neg c3, if_pos c6]; exact hN)
  rw [if_neg (show ¬ hr S x = 112 from fun z => c6 ((hq 112 (by decide) (by decide)).mp z))]
  by_cases c7 : vl S x = 121
  · rw [if_pos (show hr S x = 121 from (hq 121 (by decide) (by decide)).mpr c7), if_neg (show ¬ vn (vl S x) = 0 by rw [c7]; decide), show vn (vl S x) = 4 by rw [c7]; rfl]
    exact (rd_yr hL hw h1 (by omega) c7).imp (fun σ' hN => by unfold nS; rw [if_neg c3, if_neg c6, if_pos c7]; exact hN)
  rw [if_neg (show ¬ hr S x = 121 from fun z => c7 ((hq 121 (by decide) (by decide)).mp z)), if_pos (show vn (vl S x) = 0 by unfold vn; rw [if_neg c1, if_neg c2, if_neg c3, if_neg c4, if_neg c5, if_neg c6, if_neg c7]), lb_letS, h1.2.2, lb_k1, lb_sb1 (by omega), show x + 1 - 1 = x by omega]
  exact ⟨_, rfl, h1.place x⟩
