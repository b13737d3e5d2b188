theorem rc_X9_201 {p : Program} {l : Launch} {e : Env} {R : Room} {s : State} {m : MethodId} {args : Array Value} {below : List Frame} {meth : Method} {c : Code} {H : Heap} {locs : List Loc} {cells slots : Nat} {Q : State → Prop} {cc : ByteArray} {pc nL : Nat} {ls : Array Slot} {rest : List Value} {G : lb_G} {σ : lb_Mem} {ret : Option FieldType} (X : lb_C G p s m args meth c cc nL RX9 ret) (hW : lb_W G s σ H locs) {x1 : Int32} {qr : (Int32 × lb_Mem)} (h : f_X9_drawn x1 σ = some qr) (hR : lb_room rmX9_drawn R 2) (hls : ls.size = nL) (hrest : (rest.map fun v => v.category).sum ≤ 8) (d : decode cc pc = .ok (.invokevirtual 201, 3)) (hcap : cells ≤ R.cells ∧ slots ≤ R.slots) (kk : ∀ (H1 : Heap) (locs1 : List Loc), lb_W G s qr.2 H1 locs1 → W p l e R s m args below meth c H1 locs1 cells slots Q (F0 m (pc + 3) ls (.int qr.1 :: rest))) : W p l e R s m args below meth c H locs cells slots Q (F0 m pc ls (.int x1 :: .ref (lb_ad G 53) :: rest)) :=
  lb_goI hW (lb_runV (As := [.int x1]) X hW (m_X9_drawn l G σ x1 qr h) (n := 1) ⟨qw_1109, qw_52, qw_1112, by decide +kernel⟩ hR qw_1111 qw_41 lb_is53 rfl hls hrest d hcap) kk
abbrev rmX9_lots : Room := { frames := 5, cells := 0, slots := 0, locals := 111 }
def f_X9_lots_181 (kc52 : Int32 → Int32 → Int32 → Int32 → lb_Mem → Option (Int32 × lb_Mem)) (x1 : Int32) (x3 : Int32) (x4 : Int32) (x5 : Int32) (σ : lb_Mem) : Option (Int32 × lb_Mem) := if x3 = 0 then (f_X9_allGrace σ 55).bind (fun q191 => lb_let ((x4 + q191)) (fun v199 : Int32 => kc52 x1 x3 v199 (x5 + 1) σ)) else lb_let ((x4 + (0 : Int32))) (fun v199 : Int32 => kc52 x1 x3 v199 (x5 + 1) σ)
set_option maxRecDepth 20000 in
set_option maxHeartbeats 4000000 in
theorem w_X9_lots_181 {p : Program} {l : Launch} {e : Env} {s : State} {m : MethodId} {args : Array Value} {below : List Frame} {meth : Method} {c : Code} {G : lb_G} {qr : (Int32 × lb_Mem)} (X : lb_C G p s m args meth c cX9_lots 7 RX9 (some .int)) {kc52 : Int32 → Int32 → Int32 → Int32 → lb_Mem → Option (Int32 × lb_Mem)} (hc52 : ∀ (x1 : Int32) (x3 : Int32) (x4 : Int32) (x5 : Int32) (σ : lb_Mem) (H : Heap) (locs : List Loc) (ls : Array Slot), kc52 x1 x3 x4 x5 σ = some qr → lb_W G s σ H locs → lv_has ls 7 [(0, .ref (lb_ad G 53)), (1, .int x1), (3, .int x3), (4, .int x4), (5, .int x5)] → W p l e rmX9_lots s m args below meth c H locs 0 0 (MQ below (lb_QI G qr.1 qr.2) args s 0 0 (lb_A G)) (F0 m 52 ls [])) : ∀ (x1 : Int32) (x3 : Int32) (x4 : Int32) (x5 : Int32) (σ : lb_Mem) (H : Heap) (locs : List Loc) (ls : Array Slot), f_X9_lots_181 kc52 x1 x3 x4 x5 σ = some qr → lb_W G s σ H locs → lv_has ls 7 [(0, .ref (lb_ad G 53)), (1, .int x1), (3, .int x3), (4, .int x4), (5, .int x5)] → W p l e rmX9_lots s m args below meth c H locs 0 0 (MQ below (lb_QI G qr.1 qr.2) args s 0 0 (lb_A G)) (F0 m 181 ls []) := by
  have hx := X.1
  have hb := X.2.1
  intro x1 x3 x4 x5 σ H locs ls h hW hl
  have h : (if x3 = 0 then (f_X9_allGrace σ 55).bind (fun q191 => lb_let ((x4 + q191)) (fun v199 : Int32 => kc52 x1 x3 v199 (x5 + 1) σ)) else lb_let ((x4 + (0 : Int32))) (fun v199 : Int32 => kc52 x1 x3 v199 (x5 + 1) σ)) = some qr := h
  refine lv_iload hx hb dX9_lots_181 (lv_at hl 3 rfl) ?_
  refine lv_iload_n hx hb dX9_lots_183 rfl (lv_at hl 2 rfl) ?_
  refine lv_if_ne (tgt := 197) hx hb dX9_lots_184 (by decide) (fun c184 => ?_) (fun c184 => ?_)
  · have h := (if_neg c184).symm.trans h
    refine lv_iconst (v := 0) hx hb dX9_lots_197 rfl ?_
    refine lv_iadd hx hb dX9_lots_198 ?_
    refine lv_topi (fun v199 e199 => ?_)
    have h := lb_letI e199 h
    refine lv_istore (lv' := [(4, .int v199), (0, .ref (lb_ad G 53)), (1, .int x1), (3, .int x3), (5, .int x5)]) hx hb dX9_lots_199 hl (by decide) rfl (fun ls hl => ?_)
    refine lv_iinc (v := (x5 + 1)) (lv' := [(5, .int (x5 + 1)), (4, .int v199), (0, .ref (lb_ad G 53)), (1, .int x1), (3, .int x3)]) hx hb dX9_lots_201 hl (k := 4) rfl rfl (by decide) rfl (fun ls hl => ?_)
    refine lv_goto (tgt := 52) hx hb dX9_lots_204 (by decide) ?_
    exact hc52 x1 x3 v199 (x5 + 1) σ _ _ _ h hW (lv_sub hl [2, 3, 4, 1, 0] rfl)
  · have h := (if_pos c184).symm.trans h
    refine lv_aload_n hx hb dX9_lots_187 rfl (lv_at hl 0 rfl) ?_
    refine rg_X9_13 X hW dX9_lots_188 ?_
    obtain ⟨q191, e191, h⟩ := lb_bind h
    refine rc_X9_129 X hW (show lb_ar 55 = 60 + 1 from rfl) e191 ⟨⟨rfl, rfl⟩, Nat.le_of_ble_eq_true rfl, Nat.le_of_ble_eq_true rfl⟩ hl.1 (Nat.le_of_ble_eq_true rfl) dX9_lots_191 ⟨Nat.zero_le _, Nat.zero_le _⟩ (fun H locs hW => ?_)
    refine lv_goto (tgt := 198) hx hb dX9_lots_194 (by decide) ?_
    refine lv_iadd hx hb dX9_lots_198 ?_
    refine lv_topi (fun v199 e199 => ?_)
    have h := lb_letI e199 h
    refine lv_istore (lv' := [(4, .int v199), (0, .ref (lb_ad G 53)), (1, .int x1), (3, .int x3), (5, .int x5)]) hx hb dX9_lots_199 hl (by decide) rfl (fun ls hl => ?_)
    refine lv_iinc (v := (x5 + 1)) (lv' := [(5, .int (x5 + 1)), (4, .int v199), (0, .ref (lb_ad G 53)), (1, .int x1), (3, .int x3)]) hx hb dX9_lots_201 hl (k := 4) rfl rfl (by decide) rfl (fun ls hl => ?_)
    refine lv_goto (tgt := 52) hx hb dX9_lots_204 (by decide) ?_
    exact hc52 x1 x3 v199 (x5 + 1) σ _ _ _ h hW (lv_sub hl [2, 3, 4, 1, 0] rfl)
def f_X9_lots_135 (kc52 : Int32 → Int32 → Int32 → Int32 → lb_Mem → Option (Int32 × lb_Mem)) : Nat → Int32 → Int32 → Int32 → Int32 → Int32 → lb_Mem → Option (Int32 × lb_Mem)
  | 0, _, _, _, _, _, _ => none
  | n + 1, x1, x3, x4, x5, x6, σ => if (σ 54 (1 : Int32).toNatClampNeg) ≤ x6 then f_X9_lots_181 kc52 x1 x3 x4 x5 σ else if x3 = (1 : Int32) then lb_chk (lb_ix (f_X9_ofP x6 (1 : Int32)) 61) (if (σ 55 (f_X9_ofP x6 (1 : Int32)).toNatClampNeg) = 0 then lb_let ((x4 + (1 : Int32))) (fun v173 : Int32 => f_X9_lots_135 kc52 n x1 x3 v173 x5 (x6 + 1) σ) else lb_let ((x4 + (0 : Int32))) (fun v173 : Int32 => f_X9_lots_135 kc52 n x1 x3 v173 x5 (x6 + 1) σ)) else f_X9_lots_181 kc52 x1 x3 x4 x5 σ
set_option maxRecDepth 20000 in
set_option maxHeartbeats 4000000 in
theorem w_X9_lots_135 {p : Program} {l : Launch} {e : Env} {s : State} {m : MethodId} {args : Array Value} {below : List Frame} {meth : Method} {c : Code} {G : lb_G} {qr : (Int32 × lb_Mem)} (X : lb_C G p s m args meth c cX9_lots 7 RX9 (some .int)) {kc52 : Int32 → Int32 → Int32 → Int32 → lb_Mem → Option (Int32 × lb_Mem)} (hc52 : ∀ (x1 : Int32) (x3 : Int32) (x4 : Int32) (x5 : Int32) (σ : lb_Mem) (H : Heap) (locs : List Loc) (ls : Array Slot), kc52 x1 x3 x4 x5 σ = some qr → lb_W G s σ H locs → lv_has ls 7 [(0, .ref (lb_ad G 53)), (1, .int x1), (3, .int x3), (4, .int x4), (5, .int x5)] → W p l e rmX9_lots s m args below meth c H locs 0 0 (MQ below (lb_QI G qr.1 qr.2) args s 0 0 (lb_A G)) (F0 m 52 ls [])) : ∀ (n : Nat) (x1 : Int32) (x3 : Int32) (x4 : Int32) (x5 : Int32) (x6 : Int32) (σ : lb_Mem) (H : Heap) (locs : List Loc) (ls : Array Slot), f_X9_lots_135 kc52 n x1 x3 x4 x5 x6 σ = some qr → lb_W G s σ H locs → lv_has ls 7 [(0, .ref (lb_ad G 53)), (1, .int x1), (3, .int x3), (4, .int x4), (5, .int x5), (6, .int x6)] → W p l e rmX9_lots s m args below meth c H locs 0 0 (MQ below (lb_QI G qr.1 qr.2) args s 0 0 (lb_A G)) (F0 m 135 ls []) := by
  have hx := X.1
  have hb := X.2.1
  intro n
  induction n with
  | zero => intro x1 x3 x4 x5 x6 σ H locs ls h hW hl; exact absurd h (fun z => by cases z)
  | succ n ih =>
    intro x1 x3 x4 x5 x6 σ H locs ls h hW hl
    have h : (if (σ 54 (1 : Int32).toNatClampNeg) ≤ x6 then f_X9_lots_181 kc52 x1 x3 x4 x5 σ else if x3 = (1 : Int32) then lb_chk (lb_ix (f_X9_ofP x6 (1 : Int32)) 61) (if (σ 55 (f_X9_ofP x6 (1 : Int32)).toNatClampNeg) = 0 then lb_let ((x4 + (1 : Int32))) (fun v173 : Int32 => f_X9_lots_135 kc52 n x1 x3 v173 x5 (x6 + 1) σ) else lb_let ((x4 + (0 : Int32))) (fun v173 : Int32 => f_X9_lots_135 kc52 n x1 x3 v173 x5 (x6 + 1) σ)) else f_X9_lots_181 kc52 x1 x3 x4 x5 σ) = some qr := h
    refine lv_iload hx hb dX9_lots_135 (lv_at hl 5 rfl) ?_
    refine lv_aload_n hx hb dX9_lots_137 rfl (lv_at hl 0 rfl) ?_
    refine rg_X9_9 X hW dX9_lots_138 ?_
    refine lv_iconst (v := 1) hx hb dX9_lots_141 rfl ?_
    refine lb_ild X hW (show lb_ar 54 = 60 + 1 from rfl) (lb_inC rfl) dX9_lots_142 ?_
    refine lv_icmp_ge (tgt := 181) hx hb dX9_lots_143 (by decide) (fun c143 => ?_) (fun c143 => ?_)
    · have h := (if_pos c143).symm.trans h
      exact w_X9_lots_181 X hc52 x1 x3 x4 x5 σ _ _ _ h hW (lv_sub hl [0, 1, 2, 3, 4] rfl)
    · have h := (if_neg c143).symm.trans h
      refine lv_iload_n hx hb dX9_lots_146 rfl (lv_at hl 2 rfl) ?_
      refine lv_iconst (v := 1) hx hb dX9_lots_147 rfl ?_
      refine lv_icmp_ne (tgt := 181) hx hb dX9_lots_148 (by decide) (fun c148 => ?_) (fun c148 => ?_)
      · have h := (if_neg c148).symm.trans h
        exact w_X9_lots_181 X hc52 x1 x3 x4 x5 σ _ _ _ h hW (lv_sub hl [0, 1, 2, 3, 4] rfl)
      · have h := (if_pos c148).symm.trans h
        refine lv_iload hx hb dX9_lots_151 (lv_at hl 3 rfl) ?_
        refine lv_aload_n hx hb dX9_lots_153 rfl (lv_at hl 0 rfl) ?_
        refine rg_X9_13 X hW dX9_lots_154 ?_
        refine lv_iload hx hb dX9_lots_157 (lv_at hl 5 rfl) ?_
        refine lv_iconst (v := 1) hx hb dX9_lots_159 rfl ?_
        refine rc_X9_52 X hW x6 (1 : Int32) ⟨⟨rfl, rfl⟩, Nat.le_of_ble_eq_true rfl, Nat.le_of_ble_eq_true rfl⟩ hl.1 (Nat.le_of_ble_eq_true rfl) dX9_lots_160 ⟨Nat.zero_le _, Nat.zero_le _⟩ (fun H locs hW => ?_)
        obtain ⟨i163, h⟩ := lb_chk_in h
        refine lb_ild X hW (show lb_ar 55 = 60 + 1 from rfl) i163 dX9_lots_163 ?_
        refine lv_if_ne (tgt := 171) hx hb dX9_lots_164 (by decide) (fun c164 => ?_) (fun c164 => ?_)
        · have h := (if_neg c164).symm.trans h
          refine lv_iconst (v := 0) hx hb dX9_lots_171 rfl ?_
          refine lv_iadd hx hb dX9_lots_172 ?_
          refine lv_topi (fun v173 e173 => ?_)
          have h := lb_letI e173 h
          refine lv_istore (lv' := [(4, .int v173), (0, .ref (lb_ad G 53)), (1, .int x1), (3, .int x3), (5, .int x5), (6, .int x6)]) hx hb dX9_lots_173 hl (by decide) rfl (fun ls hl => ?_)
          refine lv_iinc (v := (x6 + 1)) (lv' := [(6, .int (x6 + 1)), (4, .int v173), (0, .ref (lb_ad G 53)), (1, .int x1), (3, .int x3), (5, .int x5)]) hx hb dX9_lots_175 hl (k := 5) rfl rfl (by decide) rfl (fun ls hl => ?_)
          refine lv_goto (tgt := 135) hx hb dX9_lots_178 (by decide) ?_
          exact ih x1 x3 v173 x5 (x6 + 1) σ _ _ _ h hW (lv_sub hl [2, 3, 4, 1, 5, 0] rfl)
        · have h := (if_pos c164).symm.trans h
          refine lv_iconst (v := 1) hx hb dX9_lots_167 rfl ?_
          refine lv_goto (tgt := 172) hx hb dX9_lots_168 (by decide) ?_
          refine lv_iadd hx hb dX9_lots_172 ?_
          refine lv_topi (fun v173 e173 => ?_)
          have h := lb_letI e173 h
          refine lv_istore (lv' := [(4, .int v173), (0, .ref (lb_ad G 53)), (1, .int x1), (3, .int x3), (5, .int x5), (6, .int x6)]) hx hb dX9_lots_173 hl (by decide) rfl (fun ls hl => ?_)
          refine lv_iinc (v := (x6 + 1)) (lv' := [(6, .int (x6 + 1)), (4, .int v173), (0, .ref (lb_ad G 53)), (1, .int x1), (3, .int x3), (5, .int x5)]) hx hb dX9_lots_175 hl (k := 5) rfl rfl (by decide) rfl (fun ls hl => ?_)
          refine lv_goto (tgt := 135) hx hb dX9_lots_178 (by decide) ?_
          exact ih x1 x3 v173 x5 (x6 + 1) σ _ _ _ h hW (lv_sub hl [2, 3, 4, 1, 5, 0] rfl)
def f_X9_lots_72 (kc52 : Int32 → Int32 → Int32 → Int32 → lb_Mem → Option (Int32 × lb_Mem)) : Nat → Int32 → Int32 → Int32 → Int32 → Int32 → lb_Mem → Option (Int32 × lb_Mem)
  | 0, _, _, _, _, _, _ => none
  | n + 1, x1, x3, x4, x5, x6, σ => if (σ 54 (0 : Int32).toNatClampNeg) ≤ x6 then (f_X9_yearsOn 55 (6 : Int32) σ).bind (fun s129 => f_X9_lots_135 kc52 lb_N x1 x3 x4 x5 (0 : Int32) s129) else (f_X9_drawn (7 : Int32) σ).bind (fun q96 => lb_chk (lb_ix (f_X9_ofT x6 (3 : Int32)) 61) (lb_let (lb_sto q96.2 55 (f_X9_ofT x6 (3 : Int32)).toNatClampNeg q96.1) (fun s99 : lb_Mem => (f_X9_drawn (10 : Int32) s99).bind (fun q113 => lb_chk (lb_ix (f_X9_ofT x6 (4 : Int32)) 61) (lb_let (lb_sto q113.2 55 (f_X9_ofT x6 (4 : Int32)).toNatClampNeg q113.1) (fun s116 : lb_Mem => f_X9_lots_72 kc52 n x1 x3 x4 x5 (x6 + 1) s116))))))
set_option maxRecDepth 20000 in
set_option maxHeartbeats 4000000 in
theorem w_X9_lots_72 {p : Program} {l : Launch} {e : Env} {s : State} {m : MethodId} {args : Array Value} {below : List Frame} {meth : Method} {c : Code} {G : lb_G} {qr : (Int32 × lb_Mem)} (X : lb_C G p s m args meth c cX9_lots 7 RX9 (some .int)) {kc52 : Int32 → Int32 → Int32 → Int32 → lb_Mem → Option (Int32 × lb_Mem)} (hc52 : ∀ (x1 : Int32) (x3 : Int32) (x4 : Int32) (x5 : Int32) (σ : lb_Mem) (H : Heap) (locs : List Loc) (ls : Array Slot), kc52 x1 x3 x4 x5 σ = some qr → lb_W G s σ H locs → lv_has ls 7 [(0, .ref (lb_ad G 53)), (1, .int x1), (3, .int x3), (4, .int x4), (5, .int x5)] → W p l e rmX9_lots s m args below meth c H locs 0 0 (MQ below (lb_QI G qr.1 qr.2) args s 0 0 (lb_A G)) (F0 m 52 ls [])) : ∀ (n : Nat) (x1 : Int32) (x3 : Int32) (x4 : Int32) (x5 : Int32) (x6 : Int32) (σ : lb_Mem) (H : Heap) (locs : List Loc) (ls : Array Slot), f_X9_lots_72 kc52 n x1 x3 x4 x5 x6 σ = some qr → lb_W G s σ H locs → lv_has ls 7 [(0, .ref (lb_ad G 53)), (1, .int x1), (3, .int x3), (4, .int x4), (5, .int x5), (6, .int x6)] → W p l e rmX9_lots s m args below meth c H locs 0 0 (MQ below (lb_QI G qr.1 qr.2) args s 0 0 (lb_A G)) (F0 m 72 ls []) := by
  have hx := X.1
  have hb := X.2.1
  intro n
  induction n with
  | zero => intro x1 x3 x4 x5 x6 σ H locs ls h hW hl; exact absurd h (fun z => by cases z)
  | succ n ih =>
    intro x1 x3 x4 x5 x6 σ H locs ls h hW hl
    have h : (if (σ 54 (0 : Int32).toNatClampNeg) ≤ x6 then (f_X9_yearsOn 55 (6 : Int32) σ).bind (fun s129 => f_X9_lots_135 kc52 lb_N x1 x3 x4 x5 (0 : Int32) s129) else (f_X9_drawn (7 : Int32) σ).bind (fun q96 => lb_chk (lb_ix (f_X9_ofT x6 (3 : Int32)) 61) (lb_let (lb_sto q96.2 55 (f_X9_ofT x6 (3 : Int32)).toNatClampNeg q96.1) (fun s99 : lb_Mem => (f_X9_drawn (10 : Int32) s99).bind (fun q113 => lb_chk (lb_ix (f_X9_ofT x6 (4 : Int32)) 61) (lb_let (lb_sto q113.2 55 (f_X9_ofT x6 (4 : Int32)).toNatClampNeg q113.1) (fun s116 : lb_Mem => f_X9_lots_72 kc52 n x1 x3 x4 x5 (x6 + 1) s116))))))) = some qr := h
    refine lv_iload hx hb dX9_lots_72 (lv_at hl 5 rfl) ?_
    refine lv_aload_n hx hb dX9_lots_74 rfl (lv_at hl 0 rfl) ?_
    refine rg_X9_9 X hW dX9_lots_75 ?_
    refine lv_iconst (v := 0) hx hb dX9_lots_78 rfl ?_
    refine lb_ild X hW (show lb_ar 54 = 60 + 1 from rfl) (lb_inC rfl) dX9_lots_79 ?_
    refine lv_icmp_ge (tgt := 123) hx hb dX9_lots_80 (by decide) (fun c80 => ?_) (fun c80 => ?_)
    · have h := (if_pos c80).symm.trans h
      refine lv_aload_n hx hb dX9_lots_123 rfl (lv_at hl 0 rfl) ?_
      refine rg_X9_13 X hW dX9_lots_124 ?_
      refine lv_bipush (v := 6) hx hb dX9_lots_127 rfl ?_
      obtain ⟨s129, e129, h⟩ := lb_bind h
      refine rc_X9_105 X hW (show lb_ar 55 = 60 + 1 from rfl) e129 ⟨⟨rfl, rfl⟩, Nat.le_of_ble_eq_true rfl, Nat.le_of_ble_eq_true rfl⟩ hl.1 (Nat.le_of_ble_eq_true rfl) dX9_lots_129 ⟨Nat.zero_le _, Nat.zero_le _⟩ (fun H locs hW => ?_)
      refine lv_iconst (v := 0) hx hb dX9_lots_132 rfl ?_
      refine lv_istore (lv' := [(6, .int (0 : Int32)), (0, .ref (lb_ad G 53)), (1, .int x1), (3, .int x3), (4, .int x4), (5, .int x5)]) hx hb dX9_lots_133 hl (by decide) rfl (fun ls hl => ?_)
      exact w_X9_lots_135 X hc52 lb_N x1 x3 x4 x5 (0 : Int32) s129 _ _ _ h hW (lv_sub hl [1, 2, 3, 4, 5, 0] rfl)
    · have h := (if_neg c80).symm.trans h
      refine lv_aload_n hx hb dX9_lots_83 rfl (lv_at hl 0 rfl) ?_
      refine rg_X9_13 X hW dX9_lots_84 ?_
      refine lv_iload hx hb dX9_lots_87 (lv_at hl 5 rfl) ?_
      refine lv_iconst (v := 3) hx hb dX9_lots_89 rfl ?_
      refine rc_X9_45 X hW x6 (3 : Int32) ⟨⟨rfl, rfl⟩, Nat.le_of_ble_eq_true rfl, Nat.le_of_ble_eq_true rfl⟩ hl.1 (Nat.le_of_ble_eq_true rfl) dX9_lots_90 ⟨Nat.zero_le _, Nat.zero_le _⟩ (fun H locs hW => ?_)
      refine lv_aload_n hx hb dX9_lots_93 rfl (lv_at hl 0 rfl) ?_
      refine lv_bipush (v := 7) hx hb dX9_lots_94 rfl ?_
      obtain ⟨q96, e96, h⟩ := lb_bind h
      refine rc_X9_201 X hW e96 ⟨⟨rfl, rfl⟩, Nat.le_of_ble_eq_true rfl, Nat.le_of_ble_eq_true rfl⟩ hl.1 (Nat.le_of_ble_eq_true rfl) dX9_lots_96 ⟨Nat.zero_le _, Nat.zero_le _⟩ (fun H locs hW => ?_)
      obtain ⟨i99, h⟩ := lb_chk_in h
      refine lb_ist X hW (show lb_ar 55 = 60 + 1 from rfl) i99 dX9_lots_99 (fun H locs hW => ?_)
      obtain ⟨s99, e99⟩ : ∃ z, z = lb_sto q96.2 55 (f_X9_ofT x6 (3 : Int32)).toNatClampNeg q96.1 := ⟨_, rfl⟩
      rw [← e99] at hW
      have h := lb_letI e99 h
      refine lv_aload_n hx hb dX9_lots_100 rfl (lv_at hl 0 rfl) ?_
      refine rg_X9_13 X hW dX9_lots_101 ?_
      refine lv_iload hx hb dX9_lots_104 (lv_at hl 5 rfl) ?_
      refine lv_iconst (v := 4) hx hb dX9_lots_106 rfl ?_
      refine rc_X9_45 X hW x6 (4 : Int32) ⟨⟨rfl, rfl⟩, Nat.le_of_ble_eq_true rfl, Nat.le_of_ble_eq_true rfl⟩ hl.1 (Nat.le_of_ble_eq_true rfl) dX9_lots_107 ⟨Nat.zero_le _, Nat.zero_le _⟩ (fun H locs hW => ?_)
      refine lv_aload_n hx hb dX9_lots_110 rfl (lv_at hl 0 rfl) ?_
      refine lv_bipush (v := 10) hx hb dX9_lots_111 rfl ?_
      obtain ⟨q113, e113, h⟩ := lb_bind h
      refine rc_X9_201 X hW e113 ⟨⟨rfl, rfl⟩, Nat.le_of_ble_eq_true rfl, Nat.le_of_ble_eq_true rfl⟩ hl.1 (Nat.le_of_ble_eq_true rfl) dX9_lots_113 ⟨Nat.zero_le _, Nat.zero_le _⟩ (fun H locs hW => ?_)
      obtain ⟨i116, h⟩ := lb_chk_in h
      refine lb_ist X hW (show lb_ar 55 = 60 + 1 from rfl) i116 dX9_lots_116 (fun H locs hW => ?_)
      obtain ⟨s116, e116⟩ : ∃ z, z = lb_sto q113.2 55 (f_X9_ofT x6 (4 : Int32)).toNatClampNeg q113.1 := ⟨_, rfl⟩
      rw [← e116] at hW
      have h := lb_letI e116 h
      refine lv_iinc (v := (x6 + 1)) (lv' := [(6, .int (x6 + 1)), (0, .ref (lb_ad G 53)), (1, .int x1), (3, .int x3), (4, .int x4), (5, .int x5)]) hx hb dX9_lots_117 hl (k := 5) rfl rfl (by decide) rfl (fun ls hl => ?_)
      refine lv_goto (tgt := 72) hx hb dX9_lots_120 (by decide) ?_
      exact ih x1 x3 x4 x5 (x6 + 1) s116 _ _ _ h hW (lv_sub hl [1, 2, 3, 4, 5, 0] rfl)
def f_X9_lots_52 : Nat → Int32 → Int32 → Int32 → Int32 → lb_Mem → Option (Int32 × lb_Mem)
  | 0, _, _, _, _, _ => none
  | n + 1, x1, x3, x4, x5, σ => if x1 ≤ x5 then some (x4, σ) else (f_X9_copies 54 55 σ).bind (fun s66 => f_X9_lots_72 (fun (x1 : Int32) (x3 : Int32) (x4 : Int32) (x5 : Int32) (σ : lb_Mem) => f_X9_lots_52 n x1 x3 x4 x5 σ) lb_N x1 x3 x4 x5 (0 : Int32) s66)
set_option maxRecDepth 20000 in
set_option maxHeartbeats 4000000 in
theorem w_X9_lots_52 {p : Program} {l : Launch} {e : Env} {s : State} {m : MethodId} {args : Array Value} {below : List Frame} {meth : Method} {c : Code} {G : lb_G} {qr : (Int32 × lb_Mem)} (X : lb_C G p s m args meth c cX9_lots 7 RX9 (some .int)) : ∀ (n : Nat) (x1 : Int32) (x3 : Int32) (x4 : Int32) (x5 : Int32) (σ : lb_Mem) (H : Heap) (locs : List Loc) (ls : Array Slot), f_X9_lots_52 n x1 x3 x4 x5 σ = some qr → lb_W G s σ H locs → lv_has ls 7 [(0, .ref (lb_ad G 53)), (1, .int x1), (3, .int x3), (4, .int x4), (5, .int x5)] → W p l e rmX9_lots s m args below meth c H locs 0 0 (MQ below (lb_QI G qr.1 qr.2) args s 0 0 (lb_A G)) (F0 m 52 ls []) := by
  have hx := X.1
  have hb := X.2.1
  intro n
  induction n with
  | zero => intro x1 x3 x4 x5 σ H locs ls h hW hl; exact absurd h (fun z => by cases z)
  | succ n ih =>
    intro x1 x3 x4 x5 σ H locs ls h hW hl
    have h : (if x1 ≤ x5 then some (x4, σ) else (f_X9_copies 54 55 σ).bind (fun s66 => f_X9_lots_72 (fun (x1 : Int32) (x3 : Int32) (x4 : Int32) (x5 : Int32) (σ : lb_Mem) => f_X9_lots_52 n x1 x3 x4 x5 σ) lb_N x1 x3 x4 x5 (0 : Int32) s66)) = some qr := h
    refine lv_iload hx hb dX9_lots_52 (lv_at hl 4 rfl) ?_
    refine lv_iload_n hx hb dX9_lots_54 rfl (lv_at hl 1 rfl) ?_
    refine lv_icmp_ge (tgt := 207) hx hb dX9_lots_55 (by decide) (fun c55 => ?_) (fun c55 => ?_)
    · have h := (if_pos c55).symm.trans h
      refine lv_iload hx hb dX9_lots_207 (lv_at hl 3 rfl) ?_
      obtain rfl := Option.some.inj h
      exact lb_iret X hW dX9_lots_209
    · have h := (if_neg c55).symm.trans h
      refine lv_aload_n hx hb dX9_lots_58 rfl (lv_at hl 0 rfl) ?_
      refine rg_X9_9 X hW dX9_lots_59 ?_
      refine lv_aload_n hx hb dX9_lots_62 rfl (lv_at hl 0 rfl) ?_
      refine rg_X9_13 X hW dX9_lots_63 ?_
      obtain ⟨s66, e66, h⟩ := lb_bind h
      refine rc_X9_112 X hW (show lb_ar 54 = 60 + 1 from rfl) (show lb_ar 55 = 60 + 1 from rfl) e66 ⟨⟨rfl, rfl⟩, Nat.le_of_ble_eq_true rfl, Nat.le_of_ble_eq_true rfl⟩ hl.1 (Nat.le_of_ble_eq_true rfl) dX9_lots_66 ⟨Nat.zero_le _, Nat.zero_le _⟩ (fun H locs hW => ?_)
      refine lv_iconst (v := 0) hx hb dX9_lots_69 rfl ?_
      refine lv_istore (lv' := [(6, .int (0 : Int32)), (0, .ref (lb_ad G 53)), (1, .int x1), (3, .int x3), (4, .int x4), (5, .int x5)]) hx hb dX9_lots_70 hl (by decide) rfl (fun ls hl => ?_)
      exact w_X9_lots_72 X ih lb_N x1 x3 x4 x5 (0 : Int32) s66 _ _ _ h hW (lv_sub hl [1, 2, 3, 4, 5, 0] rfl)
def f_X9_lots (x1 : Int32) (x2 : Int32) (x3 : Int32) (σ : lb_Mem) : Option (Int32 × lb_Mem) := if (1 : Int32) ≤ x1 then if x1 ≤ (20 : Int32) then if (f_X9_isIn x3 (0 : Int32) (1 : Int32)) = 0 then (f_X9_no (-2 : Int32) σ).bind (fun q37 => some (q37.1, q37.2)) else lb_let (lb_sto σ 53 12 x2) (fun s43 : lb_Mem => f_X9_lots_52 lb_N x1 x3 (0 : Int32) (0 : Int32) s43) else (f_X9_no (-6 : Int32) σ).bind (fun q21 => some (q21.1, q21.2)) else (f_X9_no (-4 : Int32) σ).bind (fun q8 => some (q8.1, q8.2))
set_option maxRecDepth 20000 in
set_option maxHeartbeats 4000000 in
theorem m_X9_lots (l : Launch) (G : lb_G) (σ : lb_Mem) (x1 : Int32) (x2 : Int32) (x3 : Int32) (qr : (Int32 × lb_Mem)) (h : f_X9_lots x1 x2 x3 σ = some qr) : lb_M l yX9_lots cX9_lots 7 (some .int) rmX9_lots [.ref (lb_ad G 53), .int x1, .int x2, .int x3] G σ (lb_QI G qr.1 qr.2) := by
  refine lb_start RX9 (by decide +kernel) rfl (Nat.le_of_ble_eq_true rfl) (fun p e s m below meth c X hW ls hl => ?_)
  have hx := X.1
  have hb := X.2.1
  have hl : lv_has ls 7 [(0, .ref (lb_ad G 53)), (1, .int x1), (2, .int x2), (3, .int x3)] := hl
  have h : (if (1 : Int32) ≤ x1 then if x1 ≤ (20 : Int32) then if (f_X9_isIn x3 (0 : Int32) (1 : Int32)) = 0 then (f_X9_no (-2 : Int32) σ).bind (fun q37 => some (q37.1, q37.2)) else lb_let (lb_sto σ 53 12 x2) (fun s43 : lb_Mem => f_X9_lots_52 lb_N x1 x3 (0 : Int32) (0 : Int32) s43) else (f_X9_no (-6 : Int32) σ).bind (fun q21 => some (q21.1, q21.2)) else (f_X9_no (-4 : Int32) σ).bind (fun q8 => some (q8.1, q8.2))) = some qr := h
  skip
  refine lv_iload_n hx hb dX9_lots_0 rfl (lv_at hl 1 rfl) ?_
  refine lv_iconst (v := 1) hx hb dX9_lots_1 rfl ?_
  refine lv_icmp_ge (tgt := 12) hx hb dX9_lots_2 (by decide) (fun c2 => ?_) (fun c2 => ?_)
  · have h := (if_pos c2).symm.trans h
    refine lv_iload_n hx hb dX9_lots_12 rfl (lv_at hl 1 rfl) ?_
    refine lv_bipush (v := 20) hx hb dX9_lots_13 rfl ?_
    refine lv_icmp_le (tgt := 25) hx hb dX9_lots_15 (by decide) (fun c15 => ?_) (fun c15 => ?_)
    · have h := (if_pos c15).symm.trans h
      refine lv_iload_n hx hb dX9_lots_25 rfl (lv_at hl 3 rfl) ?_
      refine lv_iconst (v := 0) hx hb dX9_lots_26 rfl ?_
      refine lv_iconst (v := 1) hx hb dX9_lots_27 rfl ?_
      refine rc_X9_41 X hW x3 (0 : Int32) (1 : Int32) ⟨⟨rfl, rfl⟩, Nat.le_of_ble_eq_true rfl, Nat.le_of_ble_eq_true rfl⟩ hl.1 (Nat.le_of_ble_eq_true rfl) dX9_lots_28 ⟨Nat.zero_le _, Nat.zero_le _⟩ (fun H locs hW => ?_)
      refine lv_if_ne (tgt := 41) hx hb dX9_lots_31 (by decide) (fun c31 => ?_) (fun c31 => ?_)
      · have h := (if_neg c31).symm.trans h
        refine lv_aload_n hx hb dX9_lots_41 rfl (lv_at hl 0 rfl) ?_
        refine lv_iload_n hx hb dX9_lots_42 rfl (lv_at hl 2 rfl) ?_
        refine rp_X9_195 X hW dX9_lots_43 (fun H locs hW => ?_)
        obtain ⟨s43, e43⟩ : ∃ z, z = lb_sto σ 53 12 x2 := ⟨_, rfl⟩
        rw [← e43] at hW
        have h := lb_letI e43 h
        refine lv_iconst (v := 0) hx hb dX9_lots_46 rfl ?_
        refine lv_istore (lv' := [(4, .int (0 : Int32)), (0, .ref (lb_ad G 53)), (1, .int x1), (2, .int x2), (3, .int x3)]) hx hb dX9_lots_47 hl (by decide) rfl (fun ls hl => ?_)
        refine lv_iconst (v := 0) hx hb dX9_lots_49 rfl ?_
        refine lv_istore (lv' := [(5, .int (0 : Int32)), (4, .int (0 : Int32)), (0, .ref (lb_ad G 53)), (1, .int x1), (2, .int x2), (3, .int x3)]) hx hb dX9_lots_50 hl (by decide) rfl (fun ls hl => ?_)
        exact w_X9_lots_52 X lb_N x1 x3 (0 : Int32) (0 : Int32) s43 _ _ _ h hW (lv_sub hl [2, 3, 5, 1, 0] rfl)
      · have h := (if_pos c31).symm.trans h
        refine lv_aload_n hx hb dX9_lots_34 rfl (lv_at hl 0 rfl) ?_
        refine lv_bipush (v := -2) hx hb dX9_lots_35 rfl ?_
        obtain ⟨q37, e37, h⟩ := lb_bind h
        refine rc_X9_35 X hW e37 ⟨⟨rfl, rfl⟩, Nat.le_of_ble_eq_true rfl, Nat.le_of_ble_eq_true rfl⟩ hl.1 (Nat.le_of_ble_eq_true rfl) dX9_lots_37 ⟨Nat.zero_le _, Nat.zero_le _⟩ (fun H locs hW => ?_)
        obtain rfl := Option.some.inj h
        exact lb_iret X hW dX9_lots_40
    · have h := (if_neg c15).symm.trans h
      refine lv_aload_n hx hb dX9_lots_18 rfl (lv_at hl 0 rfl) ?_
      refine lv_bipush (v := -6) hx hb dX9_lots_19 rfl ?_
      obtain ⟨q21, e21, h⟩ := lb_bind h
      refine rc_X9_35 X hW e21 ⟨⟨rfl, rfl⟩, Nat.le_of_ble_eq_true rfl, Nat.le_of_ble_eq_true rfl⟩ hl.1 (Nat.le_of_ble_eq_true rfl) dX9_lots_21 ⟨Nat.zero_le _, Nat.zero_le _⟩ (fun H locs hW => ?_)
      obtain rfl := Option.some.inj h
      exact lb_iret X hW dX9_lots_24
  · have h := (if_neg c2).symm.trans h
    refine lv_aload_n hx hb dX9_lots_5 rfl (lv_at hl 0 rfl) ?_
    refine lv_bipush (v := -4) hx hb dX9_lots_6 rfl ?_
    obtain ⟨q8, e8, h⟩ := lb_bind h
    refine rc_X9_35 X hW e8 ⟨⟨rfl, rfl⟩, Nat.le_of_ble_eq_true rfl, Nat.le_of_ble_eq_true rfl⟩ hl.1 (Nat.le_of_ble_eq_true rfl) dX9_lots_8 ⟨Nat.zero_le _, Nat.zero_le _⟩ (fun H locs hW => ?_)
    obtain rfl := Option.some.inj h
    exact lb_iret X hW dX9_lots_11
abbrev rmX9_image : Room := { frames := 1, cells := 0, slots := 0, locals := 22 }
def f_X9_image (σ : lb_Mem) : Option (Int32 × lb_Mem) := (f_X9_copies 54 56 σ).bind (fun s8 => lb_let (lb_sto s8 53 4 (1 : Int32)) (fun s13 : lb_Mem => some ((s13 54 (2 : Int32).toNatClampNeg), s13)))
set_option maxRecDepth 20000 in
set_option maxHeartbeats 4000000 in
theorem m_X9_image (l : Launch) (G : lb_G) (σ : lb_Mem) (qr : (Int32 × lb_Mem)) (h : f_X9_image σ = some qr) : lb_M l yX9_image cX9_image 1 (some .int) rmX9_image [.ref (lb_ad G 53)] G σ (lb_QI G qr.1 qr.2) := by
  refine lb_start RX9 (by decide +kernel) rfl (Nat.le_of_ble_eq_true rfl) (fun p e s m below meth c X hW ls hl => ?_)
  have hx := X.1
  have hb := X.2.1
  have hl : lv_has ls 1 [(0, .ref (lb_ad G 53))] := hl
  have h : ((f_X9_copies 54 56 σ).bind (fun s8 => lb_let (lb_sto s8 53 4 (1 : Int32)) (fun s13 : lb_Mem => some ((s13 54 (2 : Int32).toNatClampNeg), s13)))) = some qr := h
  skip
  refine lv_aload_n hx hb dX9_image_0 rfl (lv_at hl 0 rfl) ?_
  refine rg_X9_9 X hW dX9_image_1 ?_
  refine lv_aload_n hx hb dX9_image_4 rfl (lv_at hl 0 rfl) ?_
  refine rg_X9_16 X hW dX9_image_5 ?_
  obtain ⟨s8, e8, h⟩ := lb_bind h
  refine rc_X9_112 X hW (show lb_ar 54 = 60 + 1 from rfl) (show lb_ar 56 = 60 + 1 from rfl) e8 ⟨⟨rfl, rfl⟩, Nat.le_of_ble_eq_true rfl, Nat.le_of_ble_eq_true rfl⟩ hl.1 (Nat.le_of_ble_eq_true rfl) dX9_image_8 ⟨Nat.zero_le _, Nat.zero_le _⟩ (fun H locs hW => ?_)
  refine lv_aload_n hx hb dX9_image_11 rfl (lv_at hl 0 rfl) ?_
  refine lv_iconst (v := 1) hx hb dX9_image_12 rfl ?_
  refine rp_X9_204 X hW rfl rfl dX9_image_13 (fun H locs hW => ?_)
  obtain ⟨s13, e13⟩ : ∃ z, z = lb_sto s8 53 4 (1 : Int32) := ⟨_, rfl⟩
  rw [← e13] at hW
  have h := lb_letI e13 h
  refine lv_aload_n hx hb dX9_image_16 rfl (lv_at hl 0 rfl) ?_
  refine rg_X9_9 X hW dX9_image_17 ?_
  refine lv_iconst (v := 2) hx hb dX9_image_20 rfl ?_
  refine lb_ild X hW (show lb_ar 54 = 60 + 1 from rfl) (lb_inC rfl) dX9_image_21 ?_
  obtain rfl := Option.some.inj h
  exact lb_iret X hW dX9_image_22
abbrev rmX9_on : Room := { frames := 1, cells := 0, slots := 0, locals := 22 }
def f_X9_on (σ : lb_Mem) : Option (Int32 × lb_Mem) := if (σ 53 4) = 0 then (f_X9_no (-3 : Int32) σ).bind (fun q10 => some (q10.1, q10.2)) else (f_X9_copies 56 54 σ).bind (fun s22 => some ((s22 54 (2 : Int32).toNatClampNeg), s22))
set_option maxRecDepth 20000 in
set_option maxHeartbeats 4000000 in
theorem m_X9_on (l : Launch) (G : lb_G) (σ : lb_Mem) (qr : (Int32 × lb_Mem)) (h : f_X9_on σ = some qr) : lb_M l yX9_on cX9_on 1 (some .int) rmX9_on [.ref (lb_ad G 53)] G σ (lb_QI G qr.1 qr.2) := by
  refine lb_start RX9 (by decide +kernel) rfl (Nat.le_of_ble_eq_true rfl) (fun p e s m below meth c X hW ls hl => ?_)
  have hx := X.1
  have hb := X.2.1
  have hl : lv_has ls 1 [(0, .ref (lb_ad G 53))] := hl
  have h : (if (σ 53 4) = 0 then (f_X9_no (-3 : Int32) σ).bind (fun q10 => some (q10.1, q10.2)) else (f_X9_copies 56 54 σ).bind (fun s22 => some ((s22 54 (2 : Int32).toNatClampNeg), s22))) = some qr := h
  skip
  refine lv_aload_n hx hb dX9_on_0 rfl (lv_at hl 0 rfl) ?_
  refine rg_X9_204 X hW dX9_on_1 ?_
  refine lv_if_ne (tgt := 14) hx hb dX9_on_4 (by decide) (fun c4 => ?_) (fun c4 => ?_)
  · have h := (if_neg c4).symm.trans h
    refine lv_aload_n hx hb dX9_on_14 rfl (lv_at hl 0 rfl) ?_
    refine rg_X9_16 X hW dX9_on_15 ?_
    refine lv_aload_n hx hb dX9_on_18 rfl (lv_at hl 0 rfl) ?_
    refine rg_X9_9 X hW dX9_on_19 ?_
    obtain ⟨s22, e22, h⟩ := lb_bind h
    refine rc_X9_112 X hW (show lb_ar 56 = 60 + 1 from rfl) (show lb_ar 54 = 60 + 1 from rfl) e22 ⟨⟨rfl, rfl⟩, Nat.le_of_ble_eq_true rfl, Nat.le_of_ble_eq_true rfl⟩ hl.1 (Nat.le_of_ble_eq_true rfl) dX9_on_22 ⟨Nat.zero_le _, Nat.zero_le _⟩ (fun H locs hW => ?_)
    refine lv_aload_n hx hb dX9_on_25 rfl (lv_at hl 0 rfl) ?_
    refine rg_X9_9 X hW dX9_on_26 ?_
    refine lv_iconst (v := 2) hx hb dX9_on_29 rfl ?_
    refine lb_ild X hW (show lb_ar 54 = 60 + 1 from rfl) (lb_inC rfl) dX9_on_30 ?_
    obtain rfl := Option.some.inj h
    exact lb_iret X hW dX9_on_31
  · have h := (if_pos c4).symm.trans h
    refine lv_aload_n hx hb dX9_on_7 rfl (lv_at hl 0 rfl) ?_
    refine lv_bipush (v := -3) hx hb dX9_on_8 rfl ?_
    obtain ⟨q10, e10, h⟩ := lb_bind h
    refine rc_X9_35 X hW e10 ⟨⟨rfl, rfl⟩, Nat.le_of_ble_eq_true rfl, Nat.le_of_ble_eq_true rfl⟩ hl.1 (Nat.le_of_ble_eq_true rfl) dX9_on_10 ⟨Nat.zero_le _, Nat.zero_le _⟩ (fun H locs hW => ?_)
    obtain rfl := Option.some.inj h
    exact lb_iret X hW dX9_on_13
abbrev rmX9_count : Room := { frames := 2, cells := 0, slots := 0, locals := 43 }
def f_X9_count_89 (σ : lb_Mem) : Nat → Int32 → Int32 → Option Int32
  | 0, _, _ => none
  | n + 1, x2, x3 => if (σ 54 (0 : Int32).toNatClampNeg) ≤ x3 then some x2 else lb_chk (lb_ix (f_X9_ofT x3 (4 : Int32)) 61) (lb_let ((x2 + (σ 54 (f_X9_ofT x3 (4 : Int32)).toNatClampNeg))) (fun v111 : Int32 => f_X9_count_89 σ n v111 (x3 + 1)))
set_option maxRecDepth 20000 in
set_option maxHeartbeats 4000000 in
theorem w_X9_count_89 {p : Program} {l : Launch} {e : Env} {s : State} {m : MethodId} {args : Array Value} {below : List Frame} {meth : Method} {c : Code} {G : lb_G} {σ : lb_Mem} {qr : Int32} (X : lb_C G p s m args meth c cX9_count 4 RX9 (some .int)) : ∀ (n : Nat) (x2 : Int32) (x3 : Int32) (H : Heap) (locs : List Loc) (ls : Array Slot), f_X9_count_89 σ n x2 x3 = some qr → lb_W G s σ H locs → lv_has ls 4 [(0, .ref (lb_ad G 53)), (2, .int x2), (3, .int x3)] → W p l e rmX9_count s m args below meth c H locs 0 0 (MQ below (lb_QI G qr σ) args s 0 0 (lb_A G)) (F0 m 89 ls []) := by
  have hx := X.1
  have hb := X.2.1
  intro n
  induction n with
  | zero => intro x2 x3 H locs ls h hW hl; exact absurd h (fun z => by cases z)
  | succ n ih =>
    intro x2 x3 H locs ls h hW hl
    have h : (if (σ 54 (0 : Int32).toNatClampNeg) ≤ x3 then some x2 else lb_chk (lb_ix (f_X9_ofT x3 (4 : Int32)) 61) (lb_let ((x2 + (σ 54 (f_X9_ofT x3 (4 : Int32)).toNatClampNeg))) (fun v111 : Int32 => f_X9_count_89 σ n v111 (x3 + 1)))) = some qr := h
    refine lv_iload_n hx hb dX9_count_89 rfl (lv_at hl 2 rfl) ?_
    refine lv_aload_n hx hb dX9_count_90 rfl (lv_at hl 0 rfl) ?_
    refine rg_X9_9 X hW dX9_count_91 ?_
    refine lv_iconst (v := 0) hx hb dX9_count_94 rfl ?_
    refine lb_ild X hW (show lb_ar 54 = 60 + 1 from rfl) (lb_inC rfl) dX9_count_95 ?_
    refine lv_icmp_ge (tgt := 118) hx hb dX9_count_96 (by decide) (fun c96 => ?_) (fun c96 => ?_)
    · have h := (if_pos c96).symm.trans h
      refine lv_iload_n hx hb dX9_count_118 rfl (lv_at hl 1 rfl) ?_
      obtain rfl := Option.some.inj h
      exact lb_iret X hW dX9_count_119
    · have h := (if_neg c96).symm.trans h
      refine lv_iload_n hx hb dX9_count_99 rfl (lv_at hl 1 rfl) ?_
      refine lv_aload_n hx hb dX9_count_100 rfl (lv_at hl 0 rfl) ?_
      refine rg_X9_9 X hW dX9_count_101 ?_
      refine lv_iload_n hx hb dX9_count_104 rfl (lv_at hl 2 rfl) ?_
      refine lv_iconst (v := 4) hx hb dX9_count_105 rfl ?_
      refine rc_X9_45 X hW x3 (4 : Int32) ⟨⟨rfl, rfl⟩, Nat.le_of_ble_eq_true rfl, Nat.le_of_ble_eq_true rfl⟩ hl.1 (Nat.le_of_ble_eq_true rfl) dX9_count_106 ⟨Nat.zero_le _, Nat.zero_le _⟩ (fun H locs hW => ?_)
      obtain ⟨i109, h⟩ := lb_chk_in h
      refine lb_ild X hW (show lb_ar 54 = 60 + 1 from rfl) i109 dX9_count_109 ?_
      refine lv_iadd hx hb dX9_count_110 ?_
      refine lv_topi (fun v111 e111 => ?_)
      have h := lb_letI e111 h
      refine lv_istore_n (lv' := [(2, .int v111), (0, .ref (lb_ad G 53)), (3, .int x3)]) hx hb dX9_count_111 rfl hl (by decide) rfl (fun ls hl => ?_)
      refine lv_iinc (v := (x3 + 1)) (lv' := [(3, .int (x3 + 1)), (2, .int v111), (0, .ref (lb_ad G 53))]) hx hb dX9_count_112 hl (k := 2) rfl rfl (by decide) rfl (fun ls hl => ?_)
      refine lv_goto (tgt := 89) hx hb dX9_count_115 (by decide) ?_
      exact ih v111 (x3 + 1) _ _ _ h hW (lv_sub hl [2, 1, 0] rfl)
def f_X9_count (σ : lb_Mem) (x1 : Int32) : Option Int32 := if (f_X9_isIn x1 (11 : Int32) (16 : Int32)) = 0 then if x1 = 0 then lb_chk (lb_ix x1 61) (some (σ 54 x1.toNatClampNeg)) else if x1 = 1 then lb_chk (lb_ix x1 61) (some (σ 54 x1.toNatClampNeg)) else if x1 = 2 then lb_chk (lb_ix x1 61) (some (σ 54 x1.toNatClampNeg)) else if x1 = 3 then (f_X9_allGrace σ 54).bind (fun q83 => some q83) else if x1 = 4 then f_X9_count_89 σ lb_N (0 : Int32) (0 : Int32) else if x1 = 5 then (f_X9_honestOnes σ).bind (fun q121 => (f_X9_bits q121).bind (fun q124 => some q124)) else if x1 = 6 then some (σ 53 9) else if x1 = 7 then some (σ 53 8) else some (-9 : Int32) else lb_chk (lb_ix (x1 - (10 : Int32)) 7) (some (σ 60 (x1 - (10 : Int32)).toNatClampNeg))
set_option maxRecDepth 20000 in
set_option maxHeartbeats 4000000 in
theorem m_X9_count (l : Launch) (G : lb_G) (σ : lb_Mem) (x1 : Int32) (qr : Int32) (h : f_X9_count σ x1 = some qr) : lb_M l yX9_count cX9_count 4 (some .int) rmX9_count [.ref (lb_ad G 53), .int x1] G σ (lb_QI G qr σ) := by
  refine lb_start RX9 (by decide +kernel) rfl (Nat.le_of_ble_eq_true rfl) (fun p e s m below meth c X hW ls hl => ?_)
  have hx := X.1
  have hb := X.2.1
  have hl : lv_has ls 4 [(0, .ref (lb_ad G 53)), (1, .int x1)] := hl
  have h : (if (f_X9_isIn x1 (11 : Int32) (16 : Int32)) = 0 then if x1 = 0 then lb_chk (lb_ix x1 61) (some (σ 54 x1.toNatClampNeg)) else if x1 = 1 then lb_chk (lb_ix x1 61) (some (σ 54 x1.toNatClampNeg)) else if x1 = 2 then lb_chk (lb_ix x1 61) (some (σ 54 x1.toNatClampNeg)) else if x1 = 3 then (f_X9_allGrace σ 54).bind (fun q83 => some q83) else if x1 = 4 then f_X9_count_89 σ lb_N (0 : Int32) (0 : Int32) else if x1 = 5 then (f_X9_honestOnes σ).bind (fun q121 => (f_X9_bits q121).bind (fun q124 => some q124)) else if x1 = 6 then some (σ 53 9) else if x1 = 7 then some (σ 53 8) else some (-9 : Int32) else lb_chk (lb_ix (x1 - (10 : Int32)) 7) (some (σ 60 (x1 - (10 : Int32)).toNatClampNeg))) = some qr := h
  skip
  refine lv_iload_n hx hb dX9_count_0 rfl (lv_at hl 1 rfl) ?_
  refine lv_bipush (v := 11) hx hb dX9_count_1 rfl ?_
  refine lv_bipush (v := 16) hx hb dX9_count_3 rfl ?_
  refine rc_X9_41 X hW x1 (11 : Int32) (16 : Int32) ⟨⟨rfl, rfl⟩, Nat.le_of_ble_eq_true rfl, Nat.le_of_ble_eq_true rfl⟩ hl.1 (Nat.le_of_ble_eq_true rfl) dX9_count_5 ⟨Nat.zero_le _, Nat.zero_le _⟩ (fun H locs hW => ?_)
  refine lv_if_eq (tgt := 21) hx hb dX9_count_8 (by decide) (fun c8 => ?_) (fun c8 => ?_)
  · have h := (if_pos c8).symm.trans h
    refine lv_iconst (v := 0) hx hb dX9_count_21 rfl ?_
    refine lv_istore_n (lv' := [(2, .int (0 : Int32)), (0, .ref (lb_ad G 53)), (1, .int x1)]) hx hb dX9_count_22 rfl hl (by decide) rfl (fun ls hl => ?_)
    refine lv_iload_n hx hb dX9_count_23 rfl (lv_at hl 2 rfl) ?_
    by_cases c24_0 : x1 = 0
    · have h := (if_pos c24_0).symm.trans h
      refine lv_tableIn (tgt := 72) hx hb dX9_count_24 (by rw [c24_0]; decide) (by rw [c24_0]; decide) (off := 48) (by rw [c24_0]; rfl) (by decide) ?_
      refine lv_aload_n hx hb dX9_count_72 rfl (lv_at hl 1 rfl) ?_
      refine rg_X9_9 X hW dX9_count_73 ?_
      refine lv_iload_n hx hb dX9_count_76 rfl (lv_at hl 2 rfl) ?_
      obtain ⟨i77, h⟩ := lb_chk_in h
      refine lb_ild X hW (show lb_ar 54 = 60 + 1 from rfl) i77 dX9_count_77 ?_
      obtain rfl := Option.some.inj h
      exact lb_iret X hW dX9_count_78
    have h := (if_neg c24_0).symm.trans h
    by_cases c24_1 : x1 = 1
    · have h := (if_pos c24_1).symm.trans h
      refine lv_tableIn (tgt := 72) hx hb dX9_count_24 (by rw [c24_1]; decide) (by rw [c24_1]; decide) (off := 48) (by rw [c24_1]; rfl) (by decide) ?_
      refine lv_aload_n hx hb dX9_count_72 rfl (lv_at hl 1 rfl) ?_
      refine rg_X9_9 X hW dX9_count_73 ?_
      refine lv_iload_n hx hb dX9_count_76 rfl (lv_at hl 2 rfl) ?_
      obtain ⟨i77, h⟩ := lb_chk_in h
      refine lb_ild X hW (show lb_ar 54 = 60 + 1 from rfl) i77 dX9_count_77 ?_
      obtain rfl := Option.some.inj h
      exact lb_iret X hW dX9_count_78
    have h := (if_neg c24_1).symm.trans h
    by_cases c24_2 : x1 = 2
    · have h := (if_pos c24_2).symm.trans h
      refine lv_tableIn (tgt := 72) hx hb dX9_count_24 (by rw [c24_2]; decide) (by rw [c24_2]; decide) (off := 48) (by rw [c24_2]; rfl) (by decide) ?_
      refine lv_aload_n hx hb dX9_count_72 rfl (lv_at hl 1 rfl) ?_
      refine rg_X9_9 X hW dX9_count_73 ?_
      refine lv_iload_n hx hb dX9_count_76 rfl (lv_at hl 2 rfl) ?_
      obtain ⟨i77, h⟩ := lb_chk_in h
      refine lb_ild X hW (show lb_ar 54 = 60 + 1 from rfl) i77 dX9_count_77 ?_
      obtain rfl := Option.some.inj h
      exact lb_iret X hW dX9_count_78
    have h := (if_neg c24_2).symm.trans h
    by_cases c24_3 : x1 = 3
    · have h := (if_pos c24_3).symm.trans h
      refine lv_tableIn (tgt := 79) hx hb dX9_count_24 (by rw [c24_3]; decide) (by rw [c24_3]; decide) (off := 55) (by rw [c24_3]; rfl) (by decide) ?_
      refine lv_aload_n hx hb dX9_count_79 rfl (lv_at hl 1 rfl) ?_
      refine rg_X9_9 X hW dX9_count_80 ?_
      obtain ⟨q83, e83, h⟩ := lb_bind h
      refine rc_X9_129 X hW (show lb_ar 54 = 60 + 1 from rfl) e83 ⟨⟨rfl, rfl⟩, Nat.le_of_ble_eq_true rfl, Nat.le_of_ble_eq_true rfl⟩ hl.1 (Nat.le_of_ble_eq_true rfl) dX9_count_83 ⟨Nat.zero_le _, Nat.zero_le _⟩ (fun H locs hW => ?_)
      obtain rfl := Option.some.inj h
      exact lb_iret X hW dX9_count_86
    have h := (if_neg c24_3).symm.trans h
    by_cases c24_4 : x1 = 4
    · have h := (if_pos c24_4).symm.trans h
      refine lv_tableIn (tgt := 87) hx hb dX9_count_24 (by rw [c24_4]; decide) (by rw [c24_4]; decide) (off := 63) (by rw [c24_4]; rfl) (by decide) ?_
      refine lv_iconst (v := 0) hx hb dX9_count_87 rfl ?_
      refine lv_istore_n (lv' := [(3, .int (0 : Int32)), (2, .int (0 : Int32)), (0, .ref (lb_ad G 53)), (1, .int x1)]) hx hb dX9_count_88 rfl hl (by decide) rfl (fun ls hl => ?_)
      exact w_X9_count_89 X lb_N (0 : Int32) (0 : Int32) _ _ _ h hW (lv_sub hl [2, 1, 0] rfl)
    have h := (if_neg c24_4).symm.trans h
    by_cases c24_5 : x1 = 5
    · have h := (if_pos c24_5).symm.trans h
      refine lv_tableIn (tgt := 120) hx hb dX9_count_24 (by rw [c24_5]; decide) (by rw [c24_5]; decide) (off := 96) (by rw [c24_5]; rfl) (by decide) ?_
      refine lv_aload_n hx hb dX9_count_120 rfl (lv_at hl 1 rfl) ?_
      obtain ⟨q121, e121, h⟩ := lb_bind h
      refine rc_X9_143 X hW e121 ⟨⟨rfl, rfl⟩, Nat.le_of_ble_eq_true rfl, Nat.le_of_ble_eq_true rfl⟩ hl.1 (Nat.le_of_ble_eq_true rfl) dX9_count_121 ⟨Nat.zero_le _, Nat.zero_le _⟩ (fun H locs hW => ?_)
      obtain ⟨q124, e124, h⟩ := lb_bind h
      refine rc_X9_164 X hW e124 ⟨⟨rfl, rfl⟩, Nat.le_of_ble_eq_true rfl, Nat.le_of_ble_eq_true rfl⟩ hl.1 (Nat.le_of_ble_eq_true rfl) dX9_count_124 ⟨Nat.zero_le _, Nat.zero_le _⟩ (fun H locs hW => ?_)
      obtain rfl := Option.some.inj h
      exact lb_iret X hW dX9_count_127
    have h := (if_neg c24_5).symm.trans h
    by_cases c24_6 : x1 = 6
    · have h := (if_pos c24_6).symm.trans h
      refine lv_tableIn (tgt := 128) hx hb dX9_count_24 (by rw [c24_6]; decide) (by rw [c24_6]; decide) (off := 104) (by rw [c24_6]; rfl) (by decide) ?_
      refine lv_aload_n hx hb dX9_count_128 rfl (lv_at hl 1 rfl) ?_
      refine rg_X9_192 X hW dX9_count_129 ?_
      obtain rfl := Option.some.inj h
      exact lb_iret X hW dX9_count_132
    have h := (if_neg c24_6).symm.trans h
    by_cases c24_7 : x1 = 7
    · have h := (if_pos c24_7).symm.trans h
      refine lv_tableIn (tgt := 133) hx hb dX9_count_24 (by rw [c24_7]; decide) (by rw [c24_7]; decide) (off := 109) (by rw [c24_7]; rfl) (by decide) ?_
      refine lv_aload_n hx hb dX9_count_133 rfl (lv_at hl 1 rfl) ?_
      refine rg_X9_73 X hW dX9_count_134 ?_
      obtain rfl := Option.some.inj h
      exact lb_iret X hW dX9_count_137
    have h := (if_neg c24_7).symm.trans h
    refine lb_tswD (tgt := 138) (lb_kn_cons c24_0 (lb_kn_cons c24_1 (lb_kn_cons c24_2 (lb_kn_cons c24_3 (lb_kn_cons c24_4 (lb_kn_cons c24_5 (lb_kn_cons c24_6 (lb_kn_cons c24_7 lb_kn_nil)))))))) hx hb dX9_count_24 (by decide) (by decide) (by decide) (by decide) (by decide) ?_
    refine lv_bipush (v := -9) hx hb dX9_count_138 rfl ?_
    obtain rfl := Option.some.inj h
    exact lb_iret X hW dX9_count_140
  · have h := (if_neg c8).symm.trans h
    refine lv_aload_n hx hb dX9_count_11 rfl (lv_at hl 0 rfl) ?_
    refine rg_X9_28 X hW dX9_count_12 ?_
    refine lv_iload_n hx hb dX9_count_15 rfl (lv_at hl 1 rfl) ?_
    refine lv_bipush (v := 10) hx hb dX9_count_16 rfl ?_
    refine lv_isub hx hb dX9_count_18 ?_
    obtain ⟨i19, h⟩ := lb_chk_in h
    refine lb_ild X hW (show lb_ar 60 = 6 + 1 from rfl) i19 dX9_count_19 ?_
    obtain rfl := Option.some.inj h
    exact lb_iret X hW dX9_count_20
