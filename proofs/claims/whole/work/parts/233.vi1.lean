/-! the letters -/
def vl (S : av_V) (x : Nat) : Nat := if x < S 9 1 then S 10 x else 0
def vn (l : Nat) : Nat := if l = 102 then 4 else if l = 103 then 4 else if l = 106 then 8 else if l = 107 then 4 else if l = 108 then 4 else if l = 112 then 3 else if l = 121 then 4 else 0
def vk (l : Nat) : Option Nat := if l = 106 then some 0 else if l = 116 then some 1 else if l = 115 then some 2 else if l = 97 then some 3 else if l = 104 then some 4 else if l = 98 then some 5 else none
def vd (l : Nat) : Bool := decide (48 ≤ l ∧ l ≤ 57)
def vB (S : av_V) (x q : Nat) : Bool := if q + 1 = x + vn (vl S x) then decide (¬ vl S q = 59) else if q = x + 1 ∧ vl S x = 106 then (vk (vl S q)).isNone else !(vd (vl S q))
def frn (P : Nat → Bool) : Nat → Nat → Nat ⊕ Unit
  | _, 0 => .inr ()
  | b, n + 1 => if P b = true then .inl b else frn P (b + 1) n
def sf (S : av_V) (x : Nat) : Nat ⊕ Unit := if vn (vl S x) = 0 then .inl x else frn (vB S x) (x + 1) (vn (vl S x) - 1)
theorem av_fi_front (P : Nat → Bool) : ∀ n, av_fi P (n + 1) = if P 0 = true then .inl 0 else lb_sum (fun t => .inl (t + 1)) (fun _ => .inr ()) (av_fi (fun k => P (k + 1)) n)
  | 0 => by
    rw [av_fi, av_fi, av_fi]
    rfl
  | n + 1 => by
    have ih := av_fi_front P n
    rw [av_fi, ih, av_fi]
    by_cases c : P 0 = true
    · rw [if_pos c, if_pos c]
    · rw [if_neg c, if_neg c]
      cases av_fi (fun k => P (k + 1)) n with
      | inl t => rfl
      | inr u =>
        rw [lb_sum_r]
        dsimp only
        by_cases c2 : P (n + 1) = true
        · rw [if_pos c2, if_pos c2]; rfl
        · rw [if_neg c2, if_neg c2]; rfl
theorem frn_fi (P : Nat → Bool) : ∀ n b, frn P b n = lb_sum (fun k => .inl (b + k)) (fun _ => .inr ()) (av_fi (fun k => P (b + k)) n)
  | 0, b => rfl
  | n + 1, b => by
    rw [frn, av_fi_front, frn_fi P n (b + 1)]
    by_cases c : P b = true
    · rw [if_pos c, if_pos (show P (b + 0) = true from c)]; rfl
    · rw [if_neg c, if_neg (show ¬ P (b + 0) = true from c)]
      rw [show (fun k => P (b + 1 + k)) = (fun k => P (b + (k + 1))) by funext k; rw [show b + 1 + k = b + (k + 1) by omega]]
      cases av_fi (fun k => P (b + (k + 1))) n with
      | inl t => rw [lb_sum_l, lb_sum_l, lb_sum_l, show b + 1 + t = b + (t + 1) by omega]
      | inr u => rfl
theorem vl_le {S : av_V} (hw : rs_W S) (x : Nat) : vl S x ≤ 255 := by
  unfold vl
  split
  · exact hw.2.2.2.2.2.2.2.1 x
  · omega
/-! the class reads -/
theorem vlD : ∀ l, l < 256 → (if nI l = 102 then some (4 : Int32) else if nI l = 103 then some (4 : Int32) else if nI l = 106 then some (8 : Int32) else if nI l = 107 then some (4 : Int32) else if nI l = 108 then some (4 : Int32) else if nI l = 112 then some (3 : Int32) else if nI l = 121 then some (4 : Int32) else some (0 : Int32)) = some (nI (vn l)) := by decide +kernel
theorem vdD : ∀ l, l < 256 → f_X7_isDigit (nI l - (48 : Int32)) = if vd l = true then 1 else 0 := by decide +kernel
def vkI : Option Nat → Int32
  | none => -1
  | some k => nI k
theorem vkD : ∀ l, l < 256 → f_J0_indexOf_0f7a4 (fun _ _ => 0) (((nI l).toUInt32 % 65536).toInt32) = some (vkI (vk l)) := by decide +kernel
theorem vk6 {l k : Nat} (h : vk l = some k) : k < 6 := by
  unfold vk at h
  repeat (split at h; · cases h; decide)
  cases h
theorem pc_letterAt {σ : lb_Mem} {S : av_V} (hc : rs_C σ S) (hw : rs_W S) {x : Nat} (hx : x < 1000) : f_X4_letterAt σ (nI x) = some (nI (vl S x)) := by
  have h96 := hw.2.2.2.2.2.1
  unfold f_X4_letterAt vl
  rw [if_neg (nI_pos (by omega)), hc.2.2.2.1]
  by_cases c : x < S 9 1
  · rw [if_pos c, if_neg (by rw [lb_le (by omega) (by omega)]; omega), lb_ixN (show x < 96 by omega) (by decide), lb_chkT, lb_cl (by omega), hc.2.2.2.2.2.1 x (by omega)]
  · rw [if_neg c, if_pos (by rw [lb_le (by omega) (by omega)]; omega)]; rfl
theorem pc_lengthAt {σ : lb_Mem} {S : av_V} (hc : rs_C σ S) (hw : rs_W S) {x : Nat} (hx : x < 1000) : f_X4_lengthAt σ (nI x) = some (nI (vn (vl S x))) := by
  unfold f_X4_lengthAt
  rw [pc_letterAt hc hw hx, lb_bndS]
  exact vlD _ (by have := vl_le hw x; omega)
theorem pc_digitAt {σ : lb_Mem} {S : av_V} (hc : rs_C σ S) (hw : rs_W S) {x : Nat} (hx : x < 1000) : f_X4_digitAt σ (nI x) = some (nI (vl S x) - 48) := by
  unfold f_X4_digitAt
  rw [pc_letterAt hc hw hx, lb_bndS]
theorem pc_kindAt {σ : lb_Mem} {S : av_V} (hc : rs_C σ S) (hw : rs_W S) {x : Nat} (hx : x < 1000) : f_X4_kindAt σ (nI x) = some (vkI (vk (vl S x))) := by
  unfold f_X4_kindAt
  rw [pc_letterAt hc hw hx, lb_bndS, show f_J0_indexOf_0f7a4 σ (((nI (vl S x)).toUInt32 % 65536).toInt32) = f_J0_indexOf_0f7a4 (fun _ _ => 0) (((nI (vl S x)).toUInt32 % 65536).toInt32) from rfl, vkD _ (by have := vl_le hw x; omega), lb_bndS]
theorem vkI_neg (o : Option Nat) (h : ∀ k, o = some k → k < 6) : (vkI o < 0) ↔ o.isNone = true := by
  cases o with
  | none => exact ⟨fun _ => rfl, fun _ => by decide⟩
  | some k =>
    constructor
    · intro z; exact absurd z (nI_pos (by have := h k rfl; omega))
    · intro z; cases z
theorem vn_4 (l : Nat) : vn l = 4 ∨ vn l = 8 ∨ vn l = 3 ∨ vn l = 0 := by
  unfold vn
  by_cases c1 : l = 102
  · rw [if_pos c1]; exact Or.inl rfl
  rw [if_neg c1]
  by_cases c2 : l = 103
  · rw [if_pos c2]; exact Or.inl rfl
  rw [if_neg c2]
  by_cases c3 : l = 106
  · rw [if_pos c3]; exact Or.inr (Or.inl rfl)
  rw [if_neg c3]
  by_cases c4 : l = 107
  · rw [if_pos c4]; exact Or.inl rfl
  rw [if_neg c4]
  by_cases c5 : l = 108
  · rw [if_pos c5]; exact Or.inl rfl
  rw [if_neg c5]
  by_cases c6 : l = 112
  · rw [if_pos c6]; exact Or.inr (Or.inr (Or.inl rfl))
  rw [if_neg c6]
  by_cases c7 : l = 121
  · rw [if_pos c7]; exact Or.inl rfl
  rw [if_neg c7]; exact Or.inr (Or.inr (Or.inr rfl))
theorem vn8 (l : Nat) : vn l ≤ 8 := by rcases vn_4 l with z | z | z | z <;> omega
theorem vn3 {l : Nat} (h : ¬ vn l = 0) : 3 ≤ vn l := by rcases vn_4 l with z | z | z | z <;> omega
theorem pc_fits {σ : lb_Mem} {S : av_V} (hc : rs_C σ S) (hw : rs_W S) {x i : Nat} (hx : x < 900) (h1 : 1 ≤ i) (hi : i < vn (vl S x)) : f_X4_fits σ (nI x) (nI i) (nI (vn (vl S x))) = some (if vB S x (x + i) = true then 0 else 1) := by
  have h8 := vn8 (vl S x)
  have hl := vl_le hw (x + i)
  have hl0 := vl_le hw x
  unfold f_X4_fits f_X4_fits_56
  rw [lb_ad1, pc_letterAt hc hw (by omega), pc_letterAt hc hw (by omega), pc_kindAt hc hw (by omega), pc_digitAt hc hw (by omega), lb_bndS, lb_bndS, lb_bndS, lb_bndS, vdD _ (by omega), lb_k1, lb_sb1 (by omega)]
  unfold vB
  by_cases c1 : i = vn (vl S x) - 1
  · rw [if_pos (show nI i = nI (vn (vl S x) - 1) by rw [← c1]), if_pos (show x + i + 1 = x + vn (vl S x) by omega)]
    by_cases c2 : vl S (x + i) = 59
    · rw [if_pos (show nI (vl S (x + i)) = 59 by rw [c2]; rfl), if_neg (show ¬ decide (¬ vl S (x + i) = 59) = true by simpa using c2)]
    · rw [if_neg (show ¬ nI (vl S (x + i)) = 59 by rw [lb_k59, lb_eq (by omega) (by omega)]; exact c2), if_pos (show decide (¬ vl S (x + i) = 59) = true by simpa using c2)]
  · rw [if_neg (show ¬ nI i = nI (vn (vl S x) - 1) by rw [lb_eq (by omega) (by omega)]; exact c1), if_neg (show ¬ x + i + 1 = x + vn (vl S x) by omega)]
    have last : some (if vd (vl S (x + i)) = true then (1 : Int32) else 0) = some (if (!vd (vl S (x + i))) = true then 0 else 1) := by cases vd (vl S (x + i)) <;> rfl
    by_cases c3 : i = 1
    · subst c3
      rw [if_pos rfl]
      by_cases c4 : vl S x = 106
      · rw [if_pos (show nI (vl S x) = 106 by rw [c4]; rfl), if_pos (show x + 1 = x + 1 ∧ vl S x = 106 from ⟨rfl, c4⟩)]
        by_cases c5 : (vk (vl S (x + 1))).isNone = true
        · rw [if_pos c5, if_pos ((vkI_neg _ (fun k hk => vk6 hk)).mpr c5)]
        · rw [if_neg c5, if_neg (fun z => c5 ((vkI_neg _ (fun k hk => vk6 hk)).mp z))]
      · rw [if_neg (show ¬ nI (vl S x) = 106 by rw [lb_k106, lb_eq (by omega) (by omega)]; exact c4), if_neg (show ¬ (x + 1 = x + 1 ∧ vl S x = 106) from fun z => c4 z.2)]
        exact last
    · rw [if_neg (show ¬ nI i = nI 1 by rw [lb_eq (by omega) (by omega)]; exact c3), if_neg (show ¬ (x + i = x + 1 ∧ vl S x = 106) from fun z => c3 (by omega))]
      exact last
theorem pc_wpStep {σ : lb_Mem} {S : av_V} (hc : rs_C σ S) (hw : rs_W S) {x : Nat} (hx : x < 900) (n : Nat) : f_X4_wrongPlace_2 σ (n + 1) (nI x) = lb_sum (fun q => some (nI q)) (fun _ => if x + vn (vl S x) < S 9 1 then f_X4_wrongPlace_2 σ n (nI (x + vn (vl S x))) else some (-1 : Int32)) (sf S x) := by
  have h8 := vn8 (vl S x)
  have h96 := hw.2.2.2.2.2.1
  rw [f_X4_wrongPlace_2, pc_lengthAt hc hw (by omega), lb_bndS]
  unfold sf
  by_cases c : vn (vl S x) = 0
  · rw [if_pos c, if_pos (show nI (vn (vl S x)) = 0 by rw [c]; rfl), lb_sum_l]
  · rw [if_neg c, if_neg (show ¬ nI (vn (vl S x)) = 0 by rw [lb_k0, lb_eq (by omega) (by omega)]; exact c), frn_fi]
    refine (lb_loopE (fun n i (_ : Unit) => f_X4_wrongPlace_16 σ (fun (x1 : Int32) => f_X4_wrongPlace_2 σ _ x1) n (nI x) (nI (vn (vl S x))) (nI (i + 1))) (av_fi (fun k => vB S x (x + 1 + k))) (fun k => some (nI (x + 1 + k))) (fun _ => if x + vn (vl S x) < S 9 1 then f_X4_wrongPlace_2 σ n (nI (x + vn (vl S x))) else some (-1 : Int32)) (vn (vl S x) - 1) lb_N (by rw [lb_N300]; omega) (fun i b _ hb => av_fi_l hb) (fun n i a hi ha => ?_) (fun n a ha => ?_) () rfl).trans ?_
    · show f_X4_wrongPlace_16 σ _ (n + 1 + 1) _ _ _ = _
      rw [f_X4_wrongPlace_16, if_neg (by rw [lb_le (by omega) (by omega)]; omega), pc_fits hc hw hx (by omega) (by omega), lb_bndS, av_fi_r ha, lb_ad1, show nI (i + 1) + 1 = nI (i + 1 + 1) from nI_1 _, show x + (i + 1) = x + 1 + i by omega]
      by_cases cb : vB S x (x + 1 + i) = true
      · rw [if_pos cb, if_pos cb, if_pos rfl, lb_sum_l]
      · rw [if_neg cb, if_neg cb, if_neg (by decide), lb_sum_r]
    · show f_X4_wrongPlace_16 σ _ (n + 1) _ _ _ = _
      rw [f_X4_wrongPlace_16, if_pos (by rw [lb_le (by omega) (by omega)]; omega), lb_ad1, lb_letS, hc.2.2.2.1]
      by_cases cl : x + vn (vl S x) < S 9 1
      · rw [if_pos cl, if_pos (by rw [lb_lt (by omega) (by omega)]; exact cl)]
      · rw [if_neg cl, if_neg (by rw [lb_lt (by omega) (by omega)]; exact cl)]
    · cases av_fi (fun k => vB S x (x + 1 + k)) (vn (vl S x) - 1) with
      | inl k => rfl
      | inr u => rfl
/-- through the statements: the place that is wrong, or how many -/
def wp (S : av_V) : Nat → Nat → Nat ⊕ Nat
  | 0, _ => .inr 0
  | n + 1, x => lb_sum .inl (fun _ => if x + vn (vl S x) < S 9 1 then lb_sum .inl (fun k => .inr (k + 1)) (wp S n (x + vn (vl S x))) else .inr 1) (sf S x)
theorem sf_0 {S : av_V} {x : Nat} {u : Unit} (h : sf S x = .inr u) : ¬ vn (vl S x) = 0 := by
  intro c
  unfold sf at h
  rw [if_pos c] at h
  cases h
theorem pc_wp {σ : lb_Mem} {S : av_V} (hc : rs_C σ S) (hw : rs_W S) : ∀ n x k, x ≤ 96 → S 9 1 + 3 ≤ x + 3 * n → (n = 0 → False) → n ≤ k → f_X4_wrongPlace_2 σ k (nI x) = lb_sum (fun q => some (nI q)) (fun _ => some (-1 : Int32)) (wp S n x) := by
  intro n
  induction n with
  | zero => intro x k _ _ h; exact (h rfl).elim
  | succ n ih =>
    intro x k h1 h2 _ h3
    obtain ⟨k, rfl⟩ : ∃ k', k = k' + 1 := ⟨k - 1, by omega⟩
    rw [pc_wpStep hc hw (by omega), wp]
    cases hs : sf S x with
    | inl q => rfl
    | inr u =>
      have hv3 := vn3 (sf_0 hs)
      have hv8 := vn8 (vl S x)
      have h96 := hw.2.2.2.2.2.1
      rw [lb_sum_r, lb_sum_r]
      by_cases c : x + vn (vl S x) < S 9 1
      · rw [if_pos c, if_pos c, ih (x + vn (vl S x)) k (by omega) (by omega) (by omega) (by omega)]
        cases wp S n (x + vn (vl S x)) <;> rfl
      · rw [if_neg c, if_neg c]; rfl
