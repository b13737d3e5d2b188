abbrev rmX9_whatIn : Room := { frames := 4, cells := 0, slots := 0, locals := 89 }
def f_X9_whatIn_136 (kc47 : Int32 → Int32 → Int32 → Int32 → Int32 → lb_Mem → Option (Int32 × lb_Mem)) (kc100 : Int32 → Int32 → Int32 → Int32 → Int32 → Int32 → Int32 → lb_Mem → Option (Int32 × lb_Mem)) (x1 : Int32) (x2 : Int32) (x3 : Int32) (x4 : Int32) (x5 : Int32) (x7 : Int32) (σ : lb_Mem) (y0 : Int32) (y1 : Int32) : Option (Int32 × lb_Mem) := lb_let ((y0 &&& y1)) (fun v137 : Int32 => (f_X9_year 55 σ).bind (fun s143 => kc100 x1 x2 x3 x4 x5 v137 (x7 + 1) s143))
set_option maxRecDepth 20000 in
set_option maxHeartbeats 4000000 in
theorem w_X9_whatIn_136 {p : Program} {l : Launch} {e : Env} {s : State} {m : MethodId} {args : Array Value} {below : List Frame} {meth : Method} {c : Code} {G : lb_G} {qr : (Int32 × lb_Mem)} (X : lb_C G p s m args meth c cX9_whatIn 8 RX9 (some .int)) {kc47 : Int32 → Int32 → Int32 → Int32 → Int32 → lb_Mem → Option (Int32 × lb_Mem)} {kc100 : Int32 → Int32 → Int32 → Int32 → Int32 → Int32 → Int32 → lb_Mem → Option (Int32 × lb_Mem)} (hc47 : ∀ (x1 : Int32) (x2 : Int32) (x3 : Int32) (x4 : Int32) (x5 : Int32) (σ : lb_Mem) (H : Heap) (locs : List Loc) (ls : Array Slot), kc47 x1 x2 x3 x4 x5 σ = some qr → lb_W G s σ H locs → lv_has ls 8 [(0, .ref (lb_ad G 53)), (1, .int x1), (2, .int x2), (3, .int x3), (4, .int x4), (5, .int x5)] → W p l e rmX9_whatIn s m args below meth c H locs 0 0 (MQ below (lb_QI G qr.1 qr.2) args s 0 0 (lb_A G)) (F0 m 47 ls [])) (hc100 : ∀ (x1 : Int32) (x2 : Int32) (x3 : Int32) (x4 : Int32) (x5 : Int32) (x6 : Int32) (x7 : Int32) (σ : lb_Mem) (H : Heap) (locs : List Loc) (ls : Array Slot), kc100 x1 x2 x3 x4 x5 x6 x7 σ = some qr → lb_W G s σ H locs → lv_has ls 8 [(0, .ref (lb_ad G 53)), (1, .int x1), (2, .int x2), (3, .int x3), (4, .int x4), (5, .int x5), (6, .int x6), (7, .int x7)] → W p l e rmX9_whatIn s m args below meth c H locs 0 0 (MQ below (lb_QI G qr.1 qr.2) args s 0 0 (lb_A G)) (F0 m 100 ls [])) : ∀ (x1 : Int32) (x2 : Int32) (x3 : Int32) (x4 : Int32) (x5 : Int32) (x7 : Int32) (σ : lb_Mem) (y0 : Int32) (y1 : Int32) (H : Heap) (locs : List Loc) (ls : Array Slot), f_X9_whatIn_136 kc47 kc100 x1 x2 x3 x4 x5 x7 σ y0 y1 = some qr → lb_W G s σ H locs → lv_has ls 8 [(0, .ref (lb_ad G 53)), (1, .int x1), (2, .int x2), (3, .int x3), (4, .int x4), (5, .int x5), (7, .int x7)] → W p l e rmX9_whatIn s m args below meth c H locs 0 0 (MQ below (lb_QI G qr.1 qr.2) args s 0 0 (lb_A G)) (F0 m 136 ls [.int y1, .int y0]) := by
  have hx := X.1
  have hb := X.2.1
  intro x1 x2 x3 x4 x5 x7 σ y0 y1 H locs ls h hW hl
  have h : (lb_let ((y0 &&& y1)) (fun v137 : Int32 => (f_X9_year 55 σ).bind (fun s143 => kc100 x1 x2 x3 x4 x5 v137 (x7 + 1) s143))) = some qr := h
  refine lv_iand hx hb dX9_whatIn_136 ?_
  refine lv_topi (fun v137 e137 => ?_)
  have h := lb_letI e137 h
  refine lv_istore (lv' := [(6, .int v137), (0, .ref (lb_ad G 53)), (1, .int x1), (2, .int x2), (3, .int x3), (4, .int x4), (5, .int x5), (7, .int x7)]) hx hb dX9_whatIn_137 hl (by decide) rfl (fun ls hl => ?_)
  refine lv_aload_n hx hb dX9_whatIn_139 rfl (lv_at hl 1 rfl) ?_
  refine rg_X9_13 X hW dX9_whatIn_140 ?_
  obtain ⟨s143, e143, h⟩ := lb_bind h
  refine rc_X9_69 X hW (show lb_ar 55 = 60 + 1 from rfl) e143 ⟨⟨rfl, rfl⟩, Nat.le_of_ble_eq_true rfl, Nat.le_of_ble_eq_true rfl⟩ hl.1 (Nat.le_of_ble_eq_true rfl) dX9_whatIn_143 ⟨Nat.zero_le _, Nat.zero_le _⟩ (fun H locs hW => ?_)
  refine lv_iinc (v := (x7 + 1)) (lv' := [(7, .int (x7 + 1)), (6, .int v137), (0, .ref (lb_ad G 53)), (1, .int x1), (2, .int x2), (3, .int x3), (4, .int x4), (5, .int x5)]) hx hb dX9_whatIn_146 hl (k := 7) rfl rfl (by decide) rfl (fun ls hl => ?_)
  refine lv_goto (tgt := 100) hx hb dX9_whatIn_149 (by decide) ?_
  exact hc100 x1 x2 x3 x4 x5 v137 (x7 + 1) s143 _ _ _ h hW (lv_sub hl [2, 3, 4, 5, 6, 7, 1, 0] rfl)
def f_X9_whatIn_100 (kc47 : Int32 → Int32 → Int32 → Int32 → Int32 → lb_Mem → Option (Int32 × lb_Mem)) : Nat → Int32 → Int32 → Int32 → Int32 → Int32 → Int32 → Int32 → lb_Mem → Option (Int32 × lb_Mem)
  | 0, _, _, _, _, _, _, _, _ => none
  | n + 1, x1, x2, x3, x4, x5, x6, x7, σ => if (σ 53 9) ≤ x7 then if x6 = 0 then lb_let ((x4 ||| (0 : Int32))) (fun v168 : Int32 => kc47 x1 x2 x3 v168 (x5 + 1) σ) else lb_let ((x4 ||| ((1 : Int32) <<< (x5 &&& 31)))) (fun v168 : Int32 => kc47 x1 x2 x3 v168 (x5 + 1) σ) else lb_chk (lb_ix (f_X9_ofP x3 (1 : Int32)) 61) (lb_chk (lb_ix x7 16) (if (σ 55 (f_X9_ofP x3 (1 : Int32)).toNatClampNeg) = (σ 59 x7.toNatClampNeg) then f_X9_whatIn_136 kc47 (fun (x1 : Int32) (x2 : Int32) (x3 : Int32) (x4 : Int32) (x5 : Int32) (x6 : Int32) (x7 : Int32) (σ : lb_Mem) => f_X9_whatIn_100 kc47 n x1 x2 x3 x4 x5 x6 x7 σ) x1 x2 x3 x4 x5 x7 σ x6 (1 : Int32) else f_X9_whatIn_136 kc47 (fun (x1 : Int32) (x2 : Int32) (x3 : Int32) (x4 : Int32) (x5 : Int32) (x6 : Int32) (x7 : Int32) (σ : lb_Mem) => f_X9_whatIn_100 kc47 n x1 x2 x3 x4 x5 x6 x7 σ) x1 x2 x3 x4 x5 x7 σ x6 (0 : Int32)))
set_option maxRecDepth 20000 in
set_option maxHeartbeats 4000000 in
theorem w_X9_whatIn_100 {p : Program} {l : Launch} {e : Env} {s : State} {m : MethodId} {args : Array Value} {below : List Frame} {meth : Method} {c : Code} {G : lb_G} {qr : (Int32 × lb_Mem)} (X : lb_C G p s m args meth c cX9_whatIn 8 RX9 (some .int)) {kc47 : Int32 → Int32 → Int32 → Int32 → Int32 → lb_Mem → Option (Int32 × lb_Mem)} (hc47 : ∀ (x1 : Int32) (x2 : Int32) (x3 : Int32) (x4 : Int32) (x5 : Int32) (σ : lb_Mem) (H : Heap) (locs : List Loc) (ls : Array Slot), kc47 x1 x2 x3 x4 x5 σ = some qr → lb_W G s σ H locs → lv_has ls 8 [(0, .ref (lb_ad G 53)), (1, .int x1), (2, .int x2), (3, .int x3), (4, .int x4), (5, .int x5)] → W p l e rmX9_whatIn s m args below meth c H locs 0 0 (MQ below (lb_QI G qr.1 qr.2) args s 0 0 (lb_A G)) (F0 m 47 ls [])) : ∀ (n : Nat) (x1 : Int32) (x2 : Int32) (x3 : Int32) (x4 : Int32) (x5 : Int32) (x6 : Int32) (x7 : Int32) (σ : lb_Mem) (H : Heap) (locs : List Loc) (ls : Array Slot), f_X9_whatIn_100 kc47 n x1 x2 x3 x4 x5 x6 x7 σ = some qr → lb_W G s σ H locs → lv_has ls 8 [(0, .ref (lb_ad G 53)), (1, .int x1), (2, .int x2), (3, .int x3), (4, .int x4), (5, .int x5), (6, .int x6), (7, .int x7)] → W p l e rmX9_whatIn s m args below meth c H locs 0 0 (MQ below (lb_QI G qr.1 qr.2) args s 0 0 (lb_A G)) (F0 m 100 ls []) := by
  have hx := X.1
  have hb := X.2.1
  intro n
  induction n with
  | zero => intro x1 x2 x3 x4 x5 x6 x7 σ H locs ls h hW hl; exact absurd h (fun z => by cases z)
  | succ n ih =>
    intro x1 x2 x3 x4 x5 x6 x7 σ H locs ls h hW hl
    have h : (if (σ 53 9) ≤ x7 then if x6 = 0 then lb_let ((x4 ||| (0 : Int32))) (fun v168 : Int32 => kc47 x1 x2 x3 v168 (x5 + 1) σ) else lb_let ((x4 ||| ((1 : Int32) <<< (x5 &&& 31)))) (fun v168 : Int32 => kc47 x1 x2 x3 v168 (x5 + 1) σ) else lb_chk (lb_ix (f_X9_ofP x3 (1 : Int32)) 61) (lb_chk (lb_ix x7 16) (if (σ 55 (f_X9_ofP x3 (1 : Int32)).toNatClampNeg) = (σ 59 x7.toNatClampNeg) then f_X9_whatIn_136 kc47 (fun (x1 : Int32) (x2 : Int32) (x3 : Int32) (x4 : Int32) (x5 : Int32) (x6 : Int32) (x7 : Int32) (σ : lb_Mem) => f_X9_whatIn_100 kc47 n x1 x2 x3 x4 x5 x6 x7 σ) x1 x2 x3 x4 x5 x7 σ x6 (1 : Int32) else f_X9_whatIn_136 kc47 (fun (x1 : Int32) (x2 : Int32) (x3 : Int32) (x4 : Int32) (x5 : Int32) (x6 : Int32) (x7 : Int32) (σ : lb_Mem) => f_X9_whatIn_100 kc47 n x1 x2 x3 x4 x5 x6 x7 σ) x1 x2 x3 x4 x5 x7 σ x6 (0 : Int32)))) = some qr := h
    refine lv_iload hx hb dX9_whatIn_100 (lv_at hl 7 rfl) ?_
    refine lv_aload_n hx hb dX9_whatIn_102 rfl (lv_at hl 0 rfl) ?_
    refine rg_X9_192 X hW dX9_whatIn_103 ?_
    refine lv_icmp_ge (tgt := 152) hx hb dX9_whatIn_106 (by decide) (fun c106 => ?_) (fun c106 => ?_)
    · have h := (if_pos c106).symm.trans h
      refine lv_iload hx hb dX9_whatIn_152 (lv_at hl 4 rfl) ?_
      refine lv_iload hx hb dX9_whatIn_154 (lv_at hl 6 rfl) ?_
      refine lv_if_eq (tgt := 166) hx hb dX9_whatIn_156 (by decide) (fun c156 => ?_) (fun c156 => ?_)
      · have h := (if_pos c156).symm.trans h
        refine lv_iconst (v := 0) hx hb dX9_whatIn_166 rfl ?_
        refine lv_ior hx hb dX9_whatIn_167 ?_
        refine lv_topi (fun v168 e168 => ?_)
        have h := lb_letI e168 h
        refine lv_istore (lv' := [(4, .int v168), (0, .ref (lb_ad G 53)), (1, .int x1), (2, .int x2), (3, .int x3), (5, .int x5), (6, .int x6), (7, .int x7)]) hx hb dX9_whatIn_168 hl (by decide) rfl (fun ls hl => ?_)
        refine lv_iinc (v := (x5 + 1)) (lv' := [(5, .int (x5 + 1)), (4, .int v168), (0, .ref (lb_ad G 53)), (1, .int x1), (2, .int x2), (3, .int x3), (6, .int x6), (7, .int x7)]) hx hb dX9_whatIn_170 hl (k := 5) rfl rfl (by decide) rfl (fun ls hl => ?_)
        refine lv_goto (tgt := 47) hx hb dX9_whatIn_173 (by decide) ?_
        exact hc47 x1 x2 x3 v168 (x5 + 1) σ _ _ _ h hW (lv_sub hl [2, 3, 4, 5, 1, 0] rfl)
      · have h := (if_neg c156).symm.trans h
        refine lv_iconst (v := 1) hx hb dX9_whatIn_159 rfl ?_
        refine lv_iload hx hb dX9_whatIn_160 (lv_at hl 5 rfl) ?_
        refine lv_ishl hx hb dX9_whatIn_162 ?_
        refine lv_goto (tgt := 167) hx hb dX9_whatIn_163 (by decide) ?_
        refine lv_ior hx hb dX9_whatIn_167 ?_
        refine lv_topi (fun v168 e168 => ?_)
        have h := lb_letI e168 h
        refine lv_istore (lv' := [(4, .int v168), (0, .ref (lb_ad G 53)), (1, .int x1), (2, .int x2), (3, .int x3), (5, .int x5), (6, .int x6), (7, .int x7)]) hx hb dX9_whatIn_168 hl (by decide) rfl (fun ls hl => ?_)
        refine lv_iinc (v := (x5 + 1)) (lv' := [(5, .int (x5 + 1)), (4, .int v168), (0, .ref (lb_ad G 53)), (1, .int x1), (2, .int x2), (3, .int x3), (6, .int x6), (7, .int x7)]) hx hb dX9_whatIn_170 hl (k := 5) rfl rfl (by decide) rfl (fun ls hl => ?_)
        refine lv_goto (tgt := 47) hx hb dX9_whatIn_173 (by decide) ?_
        exact hc47 x1 x2 x3 v168 (x5 + 1) σ _ _ _ h hW (lv_sub hl [2, 3, 4, 5, 1, 0] rfl)
    · have h := (if_neg c106).symm.trans h
      refine lv_iload hx hb dX9_whatIn_109 (lv_at hl 6 rfl) ?_
      refine lv_aload_n hx hb dX9_whatIn_111 rfl (lv_at hl 0 rfl) ?_
      refine rg_X9_13 X hW dX9_whatIn_112 ?_
      refine lv_iload_n hx hb dX9_whatIn_115 rfl (lv_at hl 3 rfl) ?_
      refine lv_iconst (v := 1) hx hb dX9_whatIn_116 rfl ?_
      refine rc_X9_52 X hW x3 (1 : Int32) ⟨⟨rfl, rfl⟩, Nat.le_of_ble_eq_true rfl, Nat.le_of_ble_eq_true rfl⟩ hl.1 (Nat.le_of_ble_eq_true rfl) dX9_whatIn_117 ⟨Nat.zero_le _, Nat.zero_le _⟩ (fun H locs hW => ?_)
      obtain ⟨i120, h⟩ := lb_chk_in h
      refine lb_ild X hW (show lb_ar 55 = 60 + 1 from rfl) i120 dX9_whatIn_120 ?_
      refine lv_aload_n hx hb dX9_whatIn_121 rfl (lv_at hl 0 rfl) ?_
      refine rg_X9_25 X hW dX9_whatIn_122 ?_
      refine lv_iload hx hb dX9_whatIn_125 (lv_at hl 7 rfl) ?_
      obtain ⟨i127, h⟩ := lb_chk_in h
      refine lb_ild X hW (show lb_ar 59 = 15 + 1 from rfl) i127 dX9_whatIn_127 ?_
      refine lv_icmp_ne (tgt := 135) hx hb dX9_whatIn_128 (by decide) (fun c128 => ?_) (fun c128 => ?_)
      · have h := (if_neg c128).symm.trans h
        refine lv_iconst (v := 0) hx hb dX9_whatIn_135 rfl ?_
        exact w_X9_whatIn_136 X hc47 ih x1 x2 x3 x4 x5 x7 σ x6 (0 : Int32) _ _ _ h hW (lv_sub hl [0, 1, 2, 3, 4, 5, 7] rfl)
      · have h := (if_pos c128).symm.trans h
        refine lv_iconst (v := 1) hx hb dX9_whatIn_131 rfl ?_
        refine lv_goto (tgt := 136) hx hb dX9_whatIn_132 (by decide) ?_
        exact w_X9_whatIn_136 X hc47 ih x1 x2 x3 x4 x5 x7 σ x6 (1 : Int32) _ _ _ h hW (lv_sub hl [0, 1, 2, 3, 4, 5, 7] rfl)
def f_X9_whatIn_91 (kc47 : Int32 → Int32 → Int32 → Int32 → Int32 → lb_Mem → Option (Int32 × lb_Mem)) (x1 : Int32) (x2 : Int32) (x3 : Int32) (x4 : Int32) (x5 : Int32) (x6 : Int32) (σ : lb_Mem) (y1 : Int32) (y2 : Int32) : Option (Int32 × lb_Mem) := lb_chk (lb_ix (f_X9_ofT y1 y2) 61) (lb_let (lb_sto σ 55 (f_X9_ofT y1 y2).toNatClampNeg x5) (fun s96 : lb_Mem => f_X9_whatIn_100 kc47 lb_N x1 x2 x3 x4 x5 x6 (0 : Int32) s96))
set_option maxRecDepth 20000 in
set_option maxHeartbeats 4000000 in
theorem w_X9_whatIn_91 {p : Program} {l : Launch} {e : Env} {s : State} {m : MethodId} {args : Array Value} {below : List Frame} {meth : Method} {c : Code} {G : lb_G} {qr : (Int32 × lb_Mem)} (X : lb_C G p s m args meth c cX9_whatIn 8 RX9 (some .int)) {kc47 : Int32 → Int32 → Int32 → Int32 → Int32 → lb_Mem → Option (Int32 × lb_Mem)} (hc47 : ∀ (x1 : Int32) (x2 : Int32) (x3 : Int32) (x4 : Int32) (x5 : Int32) (σ : lb_Mem) (H : Heap) (locs : List Loc) (ls : Array Slot), kc47 x1 x2 x3 x4 x5 σ = some qr → lb_W G s σ H locs → lv_has ls 8 [(0, .ref (lb_ad G 53)), (1, .int x1), (2, .int x2), (3, .int x3), (4, .int x4), (5, .int x5)] → W p l e rmX9_whatIn s m args below meth c H locs 0 0 (MQ below (lb_QI G qr.1 qr.2) args s 0 0 (lb_A G)) (F0 m 47 ls [])) : ∀ (x1 : Int32) (x2 : Int32) (x3 : Int32) (x4 : Int32) (x5 : Int32) (x6 : Int32) (σ : lb_Mem) (y1 : Int32) (y2 : Int32) (H : Heap) (locs : List Loc) (ls : Array Slot), f_X9_whatIn_91 kc47 x1 x2 x3 x4 x5 x6 σ y1 y2 = some qr → lb_W G s σ H locs → lv_has ls 8 [(0, .ref (lb_ad G 53)), (1, .int x1), (2, .int x2), (3, .int x3), (4, .int x4), (5, .int x5), (6, .int x6)] → W p l e rmX9_whatIn s m args below meth c H locs 0 0 (MQ below (lb_QI G qr.1 qr.2) args s 0 0 (lb_A G)) (F0 m 91 ls [.int y2, .int y1, .ref (lb_ad G 55)]) := by
  have hx := X.1
  have hb := X.2.1
  intro x1 x2 x3 x4 x5 x6 σ y1 y2 H locs ls h hW hl
  have h : (lb_chk (lb_ix (f_X9_ofT y1 y2) 61) (lb_let (lb_sto σ 55 (f_X9_ofT y1 y2).toNatClampNeg x5) (fun s96 : lb_Mem => f_X9_whatIn_100 kc47 lb_N x1 x2 x3 x4 x5 x6 (0 : Int32) s96))) = some qr := h
  refine rc_X9_45 X hW y1 y2 ⟨⟨rfl, rfl⟩, Nat.le_of_ble_eq_true rfl, Nat.le_of_ble_eq_true rfl⟩ hl.1 (Nat.le_of_ble_eq_true rfl) dX9_whatIn_91 ⟨Nat.zero_le _, Nat.zero_le _⟩ (fun H locs hW => ?_)
  refine lv_iload hx hb dX9_whatIn_94 (lv_at hl 5 rfl) ?_
  obtain ⟨i96, h⟩ := lb_chk_in h
  refine lb_ist X hW (show lb_ar 55 = 60 + 1 from rfl) i96 dX9_whatIn_96 (fun H locs hW => ?_)
  obtain ⟨s96, e96⟩ : ∃ z, z = lb_sto σ 55 (f_X9_ofT y1 y2).toNatClampNeg x5 := ⟨_, rfl⟩
  rw [← e96] at hW
  have h := lb_letI e96 h
  refine lv_iconst (v := 0) hx hb dX9_whatIn_97 rfl ?_
  refine lv_istore (lv' := [(7, .int (0 : Int32)), (0, .ref (lb_ad G 53)), (1, .int x1), (2, .int x2), (3, .int x3), (4, .int x4), (5, .int x5), (6, .int x6)]) hx hb dX9_whatIn_98 hl (by decide) rfl (fun ls hl => ?_)
  exact w_X9_whatIn_100 X hc47 lb_N x1 x2 x3 x4 x5 x6 (0 : Int32) s96 _ _ _ h hW (lv_sub hl [1, 2, 3, 4, 5, 6, 7, 0] rfl)
def f_X9_whatIn_60 (kc47 : Int32 → Int32 → Int32 → Int32 → Int32 → lb_Mem → Option (Int32 × lb_Mem)) (x1 : Int32) (x2 : Int32) (x3 : Int32) (x4 : Int32) (x5 : Int32) (σ : lb_Mem) (y0 : Int32) (y1 : Int32) : Option (Int32 × lb_Mem) := if y1 ≤ y0 then some (x4, σ) else (f_X9_copies 54 55 σ).bind (fun s74 => if x2 = 0 then f_X9_whatIn_91 kc47 x1 x2 x3 x4 x5 (1 : Int32) s74 x1 (2 : Int32) else f_X9_whatIn_91 kc47 x1 x2 x3 x4 x5 (1 : Int32) s74 x1 (0 : Int32))
set_option maxRecDepth 20000 in
set_option maxHeartbeats 4000000 in
theorem w_X9_whatIn_60 {p : Program} {l : Launch} {e : Env} {s : State} {m : MethodId} {args : Array Value} {below : List Frame} {meth : Method} {c : Code} {G : lb_G} {qr : (Int32 × lb_Mem)} (X : lb_C G p s m args meth c cX9_whatIn 8 RX9 (some .int)) {kc47 : Int32 → Int32 → Int32 → Int32 → Int32 → lb_Mem → Option (Int32 × lb_Mem)} (hc47 : ∀ (x1 : Int32) (x2 : Int32) (x3 : Int32) (x4 : Int32) (x5 : Int32) (σ : lb_Mem) (H : Heap) (locs : List Loc) (ls : Array Slot), kc47 x1 x2 x3 x4 x5 σ = some qr → lb_W G s σ H locs → lv_has ls 8 [(0, .ref (lb_ad G 53)), (1, .int x1), (2, .int x2), (3, .int x3), (4, .int x4), (5, .int x5)] → W p l e rmX9_whatIn s m args below meth c H locs 0 0 (MQ below (lb_QI G qr.1 qr.2) args s 0 0 (lb_A G)) (F0 m 47 ls [])) : ∀ (x1 : Int32) (x2 : Int32) (x3 : Int32) (x4 : Int32) (x5 : Int32) (σ : lb_Mem) (y0 : Int32) (y1 : Int32) (H : Heap) (locs : List Loc) (ls : Array Slot), f_X9_whatIn_60 kc47 x1 x2 x3 x4 x5 σ y0 y1 = some qr → lb_W G s σ H locs → lv_has ls 8 [(0, .ref (lb_ad G 53)), (1, .int x1), (2, .int x2), (3, .int x3), (4, .int x4), (5, .int x5)] → W p l e rmX9_whatIn s m args below meth c H locs 0 0 (MQ below (lb_QI G qr.1 qr.2) args s 0 0 (lb_A G)) (F0 m 60 ls [.int y1, .int y0]) := by
  have hx := X.1
  have hb := X.2.1
  intro x1 x2 x3 x4 x5 σ y0 y1 H locs ls h hW hl
  have h : (if y1 ≤ y0 then some (x4, σ) else (f_X9_copies 54 55 σ).bind (fun s74 => if x2 = 0 then f_X9_whatIn_91 kc47 x1 x2 x3 x4 x5 (1 : Int32) s74 x1 (2 : Int32) else f_X9_whatIn_91 kc47 x1 x2 x3 x4 x5 (1 : Int32) s74 x1 (0 : Int32))) = some qr := h
  refine lv_icmp_ge (tgt := 176) hx hb dX9_whatIn_60 (by decide) (fun c60 => ?_) (fun c60 => ?_)
  · have h := (if_pos c60).symm.trans h
    refine lv_iload hx hb dX9_whatIn_176 (lv_at hl 4 rfl) ?_
    obtain rfl := Option.some.inj h
    exact lb_iret X hW dX9_whatIn_178
  · have h := (if_neg c60).symm.trans h
    refine lv_iconst (v := 1) hx hb dX9_whatIn_63 rfl ?_
    refine lv_istore (lv' := [(6, .int (1 : Int32)), (0, .ref (lb_ad G 53)), (1, .int x1), (2, .int x2), (3, .int x3), (4, .int x4), (5, .int x5)]) hx hb dX9_whatIn_64 hl (by decide) rfl (fun ls hl => ?_)
    refine lv_aload_n hx hb dX9_whatIn_66 rfl (lv_at hl 1 rfl) ?_
    refine rg_X9_9 X hW dX9_whatIn_67 ?_
    refine lv_aload_n hx hb dX9_whatIn_70 rfl (lv_at hl 1 rfl) ?_
    refine rg_X9_13 X hW dX9_whatIn_71 ?_
    obtain ⟨s74, e74, h⟩ := lb_bind h
    refine rc_X9_112 X hW (show lb_ar 54 = 60 + 1 from rfl) (show lb_ar 55 = 60 + 1 from rfl) e74 ⟨⟨rfl, rfl⟩, Nat.le_of_ble_eq_true rfl, Nat.le_of_ble_eq_true rfl⟩ hl.1 (Nat.le_of_ble_eq_true rfl) dX9_whatIn_74 ⟨Nat.zero_le _, Nat.zero_le _⟩ (fun H locs hW => ?_)
    refine lv_aload_n hx hb dX9_whatIn_77 rfl (lv_at hl 1 rfl) ?_
    refine rg_X9_13 X hW dX9_whatIn_78 ?_
    refine lv_iload_n hx hb dX9_whatIn_81 rfl (lv_at hl 2 rfl) ?_
    refine lv_iload_n hx hb dX9_whatIn_82 rfl (lv_at hl 3 rfl) ?_
    refine lv_if_ne (tgt := 90) hx hb dX9_whatIn_83 (by decide) (fun c83 => ?_) (fun c83 => ?_)
    · have h := (if_neg c83).symm.trans h
      refine lv_iconst (v := 0) hx hb dX9_whatIn_90 rfl ?_
      exact w_X9_whatIn_91 X hc47 x1 x2 x3 x4 x5 (1 : Int32) s74 x1 (0 : Int32) _ _ _ h hW (lv_sub hl [1, 2, 3, 4, 5, 6, 0] rfl)
    · have h := (if_pos c83).symm.trans h
      refine lv_iconst (v := 2) hx hb dX9_whatIn_86 rfl ?_
      refine lv_goto (tgt := 91) hx hb dX9_whatIn_87 (by decide) ?_
      exact w_X9_whatIn_91 X hc47 x1 x2 x3 x4 x5 (1 : Int32) s74 x1 (2 : Int32) _ _ _ h hW (lv_sub hl [1, 2, 3, 4, 5, 6, 0] rfl)
def f_X9_whatIn_47 : Nat → Int32 → Int32 → Int32 → Int32 → Int32 → lb_Mem → Option (Int32 × lb_Mem)
  | 0, _, _, _, _, _, _ => none
  | n + 1, x1, x2, x3, x4, x5, σ => if x2 = 0 then f_X9_whatIn_60 (fun (x1 : Int32) (x2 : Int32) (x3 : Int32) (x4 : Int32) (x5 : Int32) (σ : lb_Mem) => f_X9_whatIn_47 n x1 x2 x3 x4 x5 σ) x1 x2 x3 x4 x5 σ x5 (6 : Int32) else f_X9_whatIn_60 (fun (x1 : Int32) (x2 : Int32) (x3 : Int32) (x4 : Int32) (x5 : Int32) (σ : lb_Mem) => f_X9_whatIn_47 n x1 x2 x3 x4 x5 σ) x1 x2 x3 x4 x5 σ x5 (6 : Int32)
set_option maxRecDepth 20000 in
set_option maxHeartbeats 4000000 in
theorem w_X9_whatIn_47 {p : Program} {l : Launch} {e : Env} {s : State} {m : MethodId} {args : Array Value} {below : List Frame} {meth : Method} {c : Code} {G : lb_G} {qr : (Int32 × lb_Mem)} (X : lb_C G p s m args meth c cX9_whatIn 8 RX9 (some .int)) : ∀ (n : Nat) (x1 : Int32) (x2 : Int32) (x3 : Int32) (x4 : Int32) (x5 : Int32) (σ : lb_Mem) (H : Heap) (locs : List Loc) (ls : Array Slot), f_X9_whatIn_47 n x1 x2 x3 x4 x5 σ = some qr → lb_W G s σ H locs → lv_has ls 8 [(0, .ref (lb_ad G 53)), (1, .int x1), (2, .int x2), (3, .int x3), (4, .int x4), (5, .int x5)] → W p l e rmX9_whatIn s m args below meth c H locs 0 0 (MQ below (lb_QI G qr.1 qr.2) args s 0 0 (lb_A G)) (F0 m 47 ls []) := by
  have hx := X.1
  have hb := X.2.1
  intro n
  induction n with
  | zero => intro x1 x2 x3 x4 x5 σ H locs ls h hW hl; exact absurd h (fun z => by cases z)
  | succ n ih =>
    intro x1 x2 x3 x4 x5 σ H locs ls h hW hl
    have h : (if x2 = 0 then f_X9_whatIn_60 (fun (x1 : Int32) (x2 : Int32) (x3 : Int32) (x4 : Int32) (x5 : Int32) (σ : lb_Mem) => f_X9_whatIn_47 n x1 x2 x3 x4 x5 σ) x1 x2 x3 x4 x5 σ x5 (6 : Int32) else f_X9_whatIn_60 (fun (x1 : Int32) (x2 : Int32) (x3 : Int32) (x4 : Int32) (x5 : Int32) (σ : lb_Mem) => f_X9_whatIn_47 n x1 x2 x3 x4 x5 σ) x1 x2 x3 x4 x5 σ x5 (6 : Int32)) = some qr := h
    refine lv_iload hx hb dX9_whatIn_47 (lv_at hl 5 rfl) ?_
    refine lv_iload_n hx hb dX9_whatIn_49 rfl (lv_at hl 2 rfl) ?_
    refine lv_if_ne (tgt := 58) hx hb dX9_whatIn_50 (by decide) (fun c50 => ?_) (fun c50 => ?_)
    · have h := (if_neg c50).symm.trans h
      refine lv_bipush (v := 6) hx hb dX9_whatIn_58 rfl ?_
      exact w_X9_whatIn_60 X ih x1 x2 x3 x4 x5 σ x5 (6 : Int32) _ _ _ h hW (lv_sub hl [0, 1, 2, 3, 4, 5] rfl)
    · have h := (if_pos c50).symm.trans h
      refine lv_bipush (v := 6) hx hb dX9_whatIn_53 rfl ?_
      refine lv_goto (tgt := 60) hx hb dX9_whatIn_55 (by decide) ?_
      exact w_X9_whatIn_60 X ih x1 x2 x3 x4 x5 σ x5 (6 : Int32) _ _ _ h hW (lv_sub hl [0, 1, 2, 3, 4, 5] rfl)
def f_X9_whatIn (x1 : Int32) (x2 : Int32) (σ : lb_Mem) : Option (Int32 × lb_Mem) := if (f_X9_isPot σ x1) = 0 then (f_X9_no (-1 : Int32) σ).bind (fun q10 => some (q10.1, q10.2)) else if (f_X9_isIn x2 (0 : Int32) (1 : Int32)) = 0 then (f_X9_no (-2 : Int32) σ).bind (fun q26 => some (q26.1, q26.2)) else lb_chk (lb_ix (f_X9_ofT x1 (5 : Int32)) 61) (lb_let ((σ 54 (f_X9_ofT x1 (5 : Int32)).toNatClampNeg)) (fun v40 : Int32 => f_X9_whatIn_47 lb_N x1 x2 v40 (0 : Int32) (0 : Int32) σ))
set_option maxRecDepth 20000 in
set_option maxHeartbeats 4000000 in
theorem m_X9_whatIn (l : Launch) (G : lb_G) (σ : lb_Mem) (x1 : Int32) (x2 : Int32) (qr : (Int32 × lb_Mem)) (h : f_X9_whatIn x1 x2 σ = some qr) : lb_M l yX9_whatIn cX9_whatIn 8 (some .int) rmX9_whatIn [.ref (lb_ad G 53), .int x1, .int x2] G σ (lb_QI G qr.1 qr.2) := by
  refine lb_start RX9 (by decide +kernel) rfl (Nat.le_of_ble_eq_true rfl) (fun p e s m below meth c X hW ls hl => ?_)
  have hx := X.1
  have hb := X.2.1
  have hl : lv_has ls 8 [(0, .ref (lb_ad G 53)), (1, .int x1), (2, .int x2)] := hl
  have h : (if (f_X9_isPot σ x1) = 0 then (f_X9_no (-1 : Int32) σ).bind (fun q10 => some (q10.1, q10.2)) else if (f_X9_isIn x2 (0 : Int32) (1 : Int32)) = 0 then (f_X9_no (-2 : Int32) σ).bind (fun q26 => some (q26.1, q26.2)) else lb_chk (lb_ix (f_X9_ofT x1 (5 : Int32)) 61) (lb_let ((σ 54 (f_X9_ofT x1 (5 : Int32)).toNatClampNeg)) (fun v40 : Int32 => f_X9_whatIn_47 lb_N x1 x2 v40 (0 : Int32) (0 : Int32) σ))) = some qr := h
  skip
  refine lv_aload_n hx hb dX9_whatIn_0 rfl (lv_at hl 0 rfl) ?_
  refine lv_iload_n hx hb dX9_whatIn_1 rfl (lv_at hl 1 rfl) ?_
  refine rc_X9_102 X hW x1 ⟨⟨rfl, rfl⟩, Nat.le_of_ble_eq_true rfl, Nat.le_of_ble_eq_true rfl⟩ hl.1 (Nat.le_of_ble_eq_true rfl) dX9_whatIn_2 ⟨Nat.zero_le _, Nat.zero_le _⟩ (fun H locs hW => ?_)
  refine lv_if_ne (tgt := 14) hx hb dX9_whatIn_5 (by decide) (fun c5 => ?_) (fun c5 => ?_)
  · have h := (if_neg c5).symm.trans h
    refine lv_iload_n hx hb dX9_whatIn_14 rfl (lv_at hl 2 rfl) ?_
    refine lv_iconst (v := 0) hx hb dX9_whatIn_15 rfl ?_
    refine lv_iconst (v := 1) hx hb dX9_whatIn_16 rfl ?_
    refine rc_X9_41 X hW x2 (0 : Int32) (1 : Int32) ⟨⟨rfl, rfl⟩, Nat.le_of_ble_eq_true rfl, Nat.le_of_ble_eq_true rfl⟩ hl.1 (Nat.le_of_ble_eq_true rfl) dX9_whatIn_17 ⟨Nat.zero_le _, Nat.zero_le _⟩ (fun H locs hW => ?_)
    refine lv_if_ne (tgt := 30) hx hb dX9_whatIn_20 (by decide) (fun c20 => ?_) (fun c20 => ?_)
    · have h := (if_neg c20).symm.trans h
      refine lv_aload_n hx hb dX9_whatIn_30 rfl (lv_at hl 0 rfl) ?_
      refine rg_X9_9 X hW dX9_whatIn_31 ?_
      refine lv_iload_n hx hb dX9_whatIn_34 rfl (lv_at hl 1 rfl) ?_
      refine lv_iconst (v := 5) hx hb dX9_whatIn_35 rfl ?_
      refine rc_X9_45 X hW x1 (5 : Int32) ⟨⟨rfl, rfl⟩, Nat.le_of_ble_eq_true rfl, Nat.le_of_ble_eq_true rfl⟩ hl.1 (Nat.le_of_ble_eq_true rfl) dX9_whatIn_36 ⟨Nat.zero_le _, Nat.zero_le _⟩ (fun H locs hW => ?_)
      obtain ⟨i39, h⟩ := lb_chk_in h
      refine lb_ild X hW (show lb_ar 54 = 60 + 1 from rfl) i39 dX9_whatIn_39 ?_
      refine lv_topi (fun v40 e40 => ?_)
      have h := lb_letI e40 h
      refine lv_istore_n (lv' := [(3, .int v40), (0, .ref (lb_ad G 53)), (1, .int x1), (2, .int x2)]) hx hb dX9_whatIn_40 rfl hl (by decide) rfl (fun ls hl => ?_)
      refine lv_iconst (v := 0) hx hb dX9_whatIn_41 rfl ?_
      refine lv_istore (lv' := [(4, .int (0 : Int32)), (3, .int v40), (0, .ref (lb_ad G 53)), (1, .int x1), (2, .int x2)]) hx hb dX9_whatIn_42 hl (by decide) rfl (fun ls hl => ?_)
      refine lv_iconst (v := 0) hx hb dX9_whatIn_44 rfl ?_
      refine lv_istore (lv' := [(5, .int (0 : Int32)), (4, .int (0 : Int32)), (3, .int v40), (0, .ref (lb_ad G 53)), (1, .int x1), (2, .int x2)]) hx hb dX9_whatIn_45 hl (by decide) rfl (fun ls hl => ?_)
      exact w_X9_whatIn_47 X lb_N x1 x2 v40 (0 : Int32) (0 : Int32) σ _ _ _ h hW (lv_sub hl [3, 4, 5, 2, 1, 0] rfl)
    · have h := (if_pos c20).symm.trans h
      refine lv_aload_n hx hb dX9_whatIn_23 rfl (lv_at hl 0 rfl) ?_
      refine lv_bipush (v := -2) hx hb dX9_whatIn_24 rfl ?_
      obtain ⟨q26, e26, h⟩ := lb_bind h
      refine rc_X9_35 X hW e26 ⟨⟨rfl, rfl⟩, Nat.le_of_ble_eq_true rfl, Nat.le_of_ble_eq_true rfl⟩ hl.1 (Nat.le_of_ble_eq_true rfl) dX9_whatIn_26 ⟨Nat.zero_le _, Nat.zero_le _⟩ (fun H locs hW => ?_)
      obtain rfl := Option.some.inj h
      exact lb_iret X hW dX9_whatIn_29
  · have h := (if_pos c5).symm.trans h
    refine lv_aload_n hx hb dX9_whatIn_8 rfl (lv_at hl 0 rfl) ?_
    refine lv_iconst (v := -1) hx hb dX9_whatIn_9 rfl ?_
    obtain ⟨q10, e10, h⟩ := lb_bind h
    refine rc_X9_35 X hW e10 ⟨⟨rfl, rfl⟩, Nat.le_of_ble_eq_true rfl, Nat.le_of_ble_eq_true rfl⟩ hl.1 (Nat.le_of_ble_eq_true rfl) dX9_whatIn_10 ⟨Nat.zero_le _, Nat.zero_le _⟩ (fun H locs hW => ?_)
    obtain rfl := Option.some.inj h
    exact lb_iret X hW dX9_whatIn_13
abbrev rmX9_row : Room := { frames := 1, cells := 0, slots := 0, locals := 22 }
def f_X9_row_24 (x1 : Int32) (x2 : Int32) (σ : lb_Mem) : Option (Int32 × lb_Mem) := if x2 = 0 then lb_chk (lb_ix (σ 53 9) 16) (lb_let (lb_sto σ 59 (σ 53 9).toNatClampNeg x1) (fun s43 : lb_Mem => lb_let (lb_sto s43 53 9 ((s43 53 9) + (1 : Int32))) (fun s51 : lb_Mem => some ((s51 53 9), s51)))) else (f_X9_no x2 σ).bind (fun q30 => some (q30.1, q30.2))
set_option maxRecDepth 20000 in
set_option maxHeartbeats 4000000 in
theorem w_X9_row_24 {p : Program} {l : Launch} {e : Env} {s : State} {m : MethodId} {args : Array Value} {below : List Frame} {meth : Method} {c : Code} {G : lb_G} {qr : (Int32 × lb_Mem)} (X : lb_C G p s m args meth c cX9_row 3 RX9 (some .int)) : ∀ (x1 : Int32) (x2 : Int32) (σ : lb_Mem) (H : Heap) (locs : List Loc) (ls : Array Slot), f_X9_row_24 x1 x2 σ = some qr → lb_W G s σ H locs → lv_has ls 3 [(0, .ref (lb_ad G 53)), (1, .int x1), (2, .int x2)] → W p l e rmX9_row s m args below meth c H locs 0 0 (MQ below (lb_QI G qr.1 qr.2) args s 0 0 (lb_A G)) (F0 m 24 ls []) := by
  have hx := X.1
  have hb := X.2.1
  intro x1 x2 σ H locs ls h hW hl
  have h : (if x2 = 0 then lb_chk (lb_ix (σ 53 9) 16) (lb_let (lb_sto σ 59 (σ 53 9).toNatClampNeg x1) (fun s43 : lb_Mem => lb_let (lb_sto s43 53 9 ((s43 53 9) + (1 : Int32))) (fun s51 : lb_Mem => some ((s51 53 9), s51)))) else (f_X9_no x2 σ).bind (fun q30 => some (q30.1, q30.2))) = some qr := h
  refine lv_iload_n hx hb dX9_row_24 rfl (lv_at hl 2 rfl) ?_
  refine lv_if_eq (tgt := 34) hx hb dX9_row_25 (by decide) (fun c25 => ?_) (fun c25 => ?_)
  · have h := (if_pos c25).symm.trans h
    refine lv_aload_n hx hb dX9_row_34 rfl (lv_at hl 0 rfl) ?_
    refine rg_X9_25 X hW dX9_row_35 ?_
    refine lv_aload_n hx hb dX9_row_38 rfl (lv_at hl 0 rfl) ?_
    refine rg_X9_192 X hW dX9_row_39 ?_
    refine lv_iload_n hx hb dX9_row_42 rfl (lv_at hl 1 rfl) ?_
    obtain ⟨i43, h⟩ := lb_chk_in h
    refine lb_ist X hW (show lb_ar 59 = 15 + 1 from rfl) i43 dX9_row_43 (fun H locs hW => ?_)
    obtain ⟨s43, e43⟩ : ∃ z, z = lb_sto σ 59 (σ 53 9).toNatClampNeg x1 := ⟨_, rfl⟩
    rw [← e43] at hW
    have h := lb_letI e43 h
    refine lv_aload_n hx hb dX9_row_44 rfl (lv_at hl 0 rfl) ?_
    refine lv_dup hx hb dX9_row_45 rfl ?_
    refine rg_X9_192 X hW dX9_row_46 ?_
    refine lv_iconst (v := 1) hx hb dX9_row_49 rfl ?_
    refine lv_iadd hx hb dX9_row_50 ?_
    refine rp_X9_192 X hW dX9_row_51 (fun H locs hW => ?_)
    obtain ⟨s51, e51⟩ : ∃ z, z = lb_sto s43 53 9 ((s43 53 9) + (1 : Int32)) := ⟨_, rfl⟩
    rw [← e51] at hW
    have h := lb_letI e51 h
    refine lv_aload_n hx hb dX9_row_54 rfl (lv_at hl 0 rfl) ?_
    refine rg_X9_192 X hW dX9_row_55 ?_
    obtain rfl := Option.some.inj h
    exact lb_iret X hW dX9_row_58
  · have h := (if_neg c25).symm.trans h
    refine lv_aload_n hx hb dX9_row_28 rfl (lv_at hl 0 rfl) ?_
    refine lv_iload_n hx hb dX9_row_29 rfl (lv_at hl 2 rfl) ?_
    obtain ⟨q30, e30, h⟩ := lb_bind h
    refine rc_X9_35 X hW e30 ⟨⟨rfl, rfl⟩, Nat.le_of_ble_eq_true rfl, Nat.le_of_ble_eq_true rfl⟩ hl.1 (Nat.le_of_ble_eq_true rfl) dX9_row_30 ⟨Nat.zero_le _, Nat.zero_le _⟩ (fun H locs hW => ?_)
    obtain rfl := Option.some.inj h
    exact lb_iret X hW dX9_row_33
def f_X9_row (x1 : Int32) (σ : lb_Mem) : Option (Int32 × lb_Mem) := lb_let ((f_X9_wrongBy x1 (0 : Int32) (99 : Int32))) (fun v7 : Int32 => if v7 = 0 then if (σ 53 9) = (16 : Int32) then f_X9_row_24 x1 (-6 : Int32) σ else f_X9_row_24 x1 v7 σ else f_X9_row_24 x1 v7 σ)
set_option maxRecDepth 20000 in
set_option maxHeartbeats 4000000 in
theorem m_X9_row (l : Launch) (G : lb_G) (σ : lb_Mem) (x1 : Int32) (qr : (Int32 × lb_Mem)) (h : f_X9_row x1 σ = some qr) : lb_M l yX9_row cX9_row 3 (some .int) rmX9_row [.ref (lb_ad G 53), .int x1] G σ (lb_QI G qr.1 qr.2) := by
  refine lb_start RX9 (by decide +kernel) rfl (Nat.le_of_ble_eq_true rfl) (fun p e s m below meth c X hW ls hl => ?_)
  have hx := X.1
  have hb := X.2.1
  have hl : lv_has ls 3 [(0, .ref (lb_ad G 53)), (1, .int x1)] := hl
  have h : (lb_let ((f_X9_wrongBy x1 (0 : Int32) (99 : Int32))) (fun v7 : Int32 => if v7 = 0 then if (σ 53 9) = (16 : Int32) then f_X9_row_24 x1 (-6 : Int32) σ else f_X9_row_24 x1 v7 σ else f_X9_row_24 x1 v7 σ)) = some qr := h
  skip
  refine lv_iload_n hx hb dX9_row_0 rfl (lv_at hl 1 rfl) ?_
  refine lv_iconst (v := 0) hx hb dX9_row_1 rfl ?_
  refine lv_bipush (v := 99) hx hb dX9_row_2 rfl ?_
  refine rc_X9_125 X hW x1 (0 : Int32) (99 : Int32) ⟨⟨rfl, rfl⟩, Nat.le_of_ble_eq_true rfl, Nat.le_of_ble_eq_true rfl⟩ hl.1 (Nat.le_of_ble_eq_true rfl) dX9_row_4 ⟨Nat.zero_le _, Nat.zero_le _⟩ (fun H locs hW => ?_)
  refine lv_topi (fun v7 e7 => ?_)
  have h := lb_letI e7 h
  refine lv_istore_n (lv' := [(2, .int v7), (0, .ref (lb_ad G 53)), (1, .int x1)]) hx hb dX9_row_7 rfl hl (by decide) rfl (fun ls hl => ?_)
  refine lv_iload_n hx hb dX9_row_8 rfl (lv_at hl 0 rfl) ?_
  refine lv_if_ne (tgt := 24) hx hb dX9_row_9 (by decide) (fun c9 => ?_) (fun c9 => ?_)
  · have h := (if_neg c9).symm.trans h
    exact w_X9_row_24 X x1 v7 σ _ _ _ h hW (lv_sub hl [1, 2, 0] rfl)
  · have h := (if_pos c9).symm.trans h
    refine lv_aload_n hx hb dX9_row_12 rfl (lv_at hl 1 rfl) ?_
    refine rg_X9_192 X hW dX9_row_13 ?_
    refine lv_bipush (v := 16) hx hb dX9_row_16 rfl ?_
    refine lv_icmp_ne (tgt := 24) hx hb dX9_row_18 (by decide) (fun c18 => ?_) (fun c18 => ?_)
    · have h := (if_neg c18).symm.trans h
      exact w_X9_row_24 X x1 v7 σ _ _ _ h hW (lv_sub hl [1, 2, 0] rfl)
    · have h := (if_pos c18).symm.trans h
      refine lv_bipush (v := -6) hx hb dX9_row_21 rfl ?_
      refine lv_istore_n (lv' := [(2, .int (-6 : Int32)), (0, .ref (lb_ad G 53)), (1, .int x1)]) hx hb dX9_row_23 rfl hl (by decide) rfl (fun ls hl => ?_)
      exact w_X9_row_24 X x1 (-6 : Int32) σ _ _ _ h hW (lv_sub hl [1, 2, 0] rfl)
abbrev rmX9_judge : Room := { frames := 2, cells := 0, slots := 0, locals := 43 }
def f_X9_judge_12 : Nat → Int32 → Int32 → lb_Mem → Option (Int32 × lb_Mem)
  | 0, _, _, _ => none
  | n + 1, x1, x2, σ => if x1 ≤ x2 then some ((-9 : Int32), σ) else if (f_X9_isPot σ x2) = 0 then some (x2, σ) else lb_chk (lb_ix (f_X9_ofT x2 (3 : Int32)) 61) (lb_chk (lb_ix x2 16) (if (σ 54 (f_X9_ofT x2 (3 : Int32)).toNatClampNeg) = (σ 59 x2.toNatClampNeg) then f_X9_judge_12 n x1 (x2 + 1) σ else some (x2, σ)))
set_option maxRecDepth 20000 in
set_option maxHeartbeats 4000000 in
theorem w_X9_judge_12 {p : Program} {l : Launch} {e : Env} {s : State} {m : MethodId} {args : Array Value} {below : List Frame} {meth : Method} {c : Code} {G : lb_G} {qr : (Int32 × lb_Mem)} (X : lb_C G p s m args meth c cX9_judge 3 RX9 (some .int)) : ∀ (n : Nat) (x1 : Int32) (x2 : Int32) (σ : lb_Mem) (H : Heap) (locs : List Loc) (ls : Array Slot), f_X9_judge_12 n x1 x2 σ = some qr → lb_W G s σ H locs → lv_has ls 3 [(0, .ref (lb_ad G 53)), (1, .int x1), (2, .int x2)] → W p l e rmX9_judge s m args below meth c H locs 0 0 (MQ below (lb_QI G qr.1 qr.2) args s 0 0 (lb_A G)) (F0 m 12 ls []) := by
  have hx := X.1
  have hb := X.2.1
  intro n
  induction n with
  | zero => intro x1 x2 σ H locs ls h hW hl; exact absurd h (fun z => by cases z)
  | succ n ih =>
    intro x1 x2 σ H locs ls h hW hl
    have h : (if x1 ≤ x2 then some ((-9 : Int32), σ) else if (f_X9_isPot σ x2) = 0 then some (x2, σ) else lb_chk (lb_ix (f_X9_ofT x2 (3 : Int32)) 61) (lb_chk (lb_ix x2 16) (if (σ 54 (f_X9_ofT x2 (3 : Int32)).toNatClampNeg) = (σ 59 x2.toNatClampNeg) then f_X9_judge_12 n x1 (x2 + 1) σ else some (x2, σ)))) = some qr := h
    refine lv_iload_n hx hb dX9_judge_12 rfl (lv_at hl 2 rfl) ?_
    refine lv_iload_n hx hb dX9_judge_13 rfl (lv_at hl 1 rfl) ?_
    refine lv_icmp_ge (tgt := 52) hx hb dX9_judge_14 (by decide) (fun c14 => ?_) (fun c14 => ?_)
    · have h := (if_pos c14).symm.trans h
      refine lv_bipush (v := -9) hx hb dX9_judge_52 rfl ?_
      obtain rfl := Option.some.inj h
      exact lb_iret X hW dX9_judge_54
    · have h := (if_neg c14).symm.trans h
      refine lv_aload_n hx hb dX9_judge_17 rfl (lv_at hl 0 rfl) ?_
      refine lv_iload_n hx hb dX9_judge_18 rfl (lv_at hl 2 rfl) ?_
      refine rc_X9_102 X hW x2 ⟨⟨rfl, rfl⟩, Nat.le_of_ble_eq_true rfl, Nat.le_of_ble_eq_true rfl⟩ hl.1 (Nat.le_of_ble_eq_true rfl) dX9_judge_19 ⟨Nat.zero_le _, Nat.zero_le _⟩ (fun H locs hW => ?_)
      refine lv_if_eq (tgt := 44) hx hb dX9_judge_22 (by decide) (fun c22 => ?_) (fun c22 => ?_)
      · have h := (if_pos c22).symm.trans h
        refine lv_iload_n hx hb dX9_judge_44 rfl (lv_at hl 2 rfl) ?_
        obtain rfl := Option.some.inj h
        exact lb_iret X hW dX9_judge_45
      · have h := (if_neg c22).symm.trans h
        refine lv_aload_n hx hb dX9_judge_25 rfl (lv_at hl 0 rfl) ?_
        refine rg_X9_9 X hW dX9_judge_26 ?_
        refine lv_iload_n hx hb dX9_judge_29 rfl (lv_at hl 2 rfl) ?_
        refine lv_iconst (v := 3) hx hb dX9_judge_30 rfl ?_
        refine rc_X9_45 X hW x2 (3 : Int32) ⟨⟨rfl, rfl⟩, Nat.le_of_ble_eq_true rfl, Nat.le_of_ble_eq_true rfl⟩ hl.1 (Nat.le_of_ble_eq_true rfl) dX9_judge_31 ⟨Nat.zero_le _, Nat.zero_le _⟩ (fun H locs hW => ?_)
        obtain ⟨i34, h⟩ := lb_chk_in h
        refine lb_ild X hW (show lb_ar 54 = 60 + 1 from rfl) i34 dX9_judge_34 ?_
        refine lv_aload_n hx hb dX9_judge_35 rfl (lv_at hl 0 rfl) ?_
        refine rg_X9_25 X hW dX9_judge_36 ?_
        refine lv_iload_n hx hb dX9_judge_39 rfl (lv_at hl 2 rfl) ?_
        obtain ⟨i40, h⟩ := lb_chk_in h
        refine lb_ild X hW (show lb_ar 59 = 15 + 1 from rfl) i40 dX9_judge_40 ?_
        refine lv_icmp_eq (tgt := 46) hx hb dX9_judge_41 (by decide) (fun c41 => ?_) (fun c41 => ?_)
        · have h := (if_pos c41).symm.trans h
          refine lv_iinc (v := (x2 + 1)) (lv' := [(2, .int (x2 + 1)), (0, .ref (lb_ad G 53)), (1, .int x1)]) hx hb dX9_judge_46 hl (k := 2) rfl rfl (by decide) rfl (fun ls hl => ?_)
          refine lv_goto (tgt := 12) hx hb dX9_judge_49 (by decide) ?_
          exact ih x1 (x2 + 1) σ _ _ _ h hW (lv_sub hl [1, 2, 0] rfl)
        · have h := (if_neg c41).symm.trans h
          refine lv_iload_n hx hb dX9_judge_44 rfl (lv_at hl 2 rfl) ?_
          obtain rfl := Option.some.inj h
          exact lb_iret X hW dX9_judge_45
def f_X9_judge (σ : lb_Mem) : Option (Int32 × lb_Mem) := lb_let ((σ 53 9)) (fun v4 : Int32 => lb_let (lb_sto σ 53 9 (0 : Int32)) (fun s7 : lb_Mem => f_X9_judge_12 lb_N v4 (0 : Int32) s7))
set_option maxRecDepth 20000 in
set_option maxHeartbeats 4000000 in
theorem m_X9_judge (l : Launch) (G : lb_G) (σ : lb_Mem) (qr : (Int32 × lb_Mem)) (h : f_X9_judge σ = some qr) : lb_M l yX9_judge cX9_judge 3 (some .int) rmX9_judge [.ref (lb_ad G 53)] G σ (lb_QI G qr.1 qr.2) := by
  refine lb_start RX9 (by decide +kernel) rfl (Nat.le_of_ble_eq_true rfl) (fun p e s m below meth c X hW ls hl => ?_)
  have hx := X.1
  have hb := X.2.1
  have hl : lv_has ls 3 [(0, .ref (lb_ad G 53))] := hl
  have h : (lb_let ((σ 53 9)) (fun v4 : Int32 => lb_let (lb_sto σ 53 9 (0 : Int32)) (fun s7 : lb_Mem => f_X9_judge_12 lb_N v4 (0 : Int32) s7))) = some qr := h
  skip
  refine lv_aload_n hx hb dX9_judge_0 rfl (lv_at hl 0 rfl) ?_
  refine rg_X9_192 X hW dX9_judge_1 ?_
  refine lv_topi (fun v4 e4 => ?_)
  have h := lb_letI e4 h
  refine lv_istore_n (lv' := [(1, .int v4), (0, .ref (lb_ad G 53))]) hx hb dX9_judge_4 rfl hl (by decide) rfl (fun ls hl => ?_)
  refine lv_aload_n hx hb dX9_judge_5 rfl (lv_at hl 1 rfl) ?_
  refine lv_iconst (v := 0) hx hb dX9_judge_6 rfl ?_
  refine rp_X9_192 X hW dX9_judge_7 (fun H locs hW => ?_)
  obtain ⟨s7, e7⟩ : ∃ z, z = lb_sto σ 53 9 (0 : Int32) := ⟨_, rfl⟩
  rw [← e7] at hW
  have h := lb_letI e7 h
  refine lv_iconst (v := 0) hx hb dX9_judge_10 rfl ?_
  refine lv_istore_n (lv' := [(2, .int (0 : Int32)), (1, .int v4), (0, .ref (lb_ad G 53))]) hx hb dX9_judge_11 rfl hl (by decide) rfl (fun ls hl => ?_)
  exact w_X9_judge_12 X lb_N v4 (0 : Int32) s7 _ _ _ h hW (lv_sub hl [2, 1, 0] rfl)
abbrev rmX9_clear : Room := { frames := 0, cells := 0, slots := 0, locals := 0 }
def f_X9_clear (σ : lb_Mem) : Option (Int32 × lb_Mem) := lb_let ((σ 53 9)) (fun v4 : Int32 => lb_let (lb_sto σ 53 9 (0 : Int32)) (fun s7 : lb_Mem => some (v4, s7)))
set_option maxRecDepth 20000 in
set_option maxHeartbeats 4000000 in
theorem m_X9_clear (l : Launch) (G : lb_G) (σ : lb_Mem) (qr : (Int32 × lb_Mem)) (h : f_X9_clear σ = some qr) : lb_M l yX9_clear cX9_clear 2 (some .int) rmX9_clear [.ref (lb_ad G 53)] G σ (lb_QI G qr.1 qr.2) := by
  refine lb_start RX9 (by decide +kernel) rfl (Nat.le_of_ble_eq_true rfl) (fun p e s m below meth c X hW ls hl => ?_)
  have hx := X.1
  have hb := X.2.1
  have hl : lv_has ls 2 [(0, .ref (lb_ad G 53))] := hl
  have h : (lb_let ((σ 53 9)) (fun v4 : Int32 => lb_let (lb_sto σ 53 9 (0 : Int32)) (fun s7 : lb_Mem => some (v4, s7)))) = some qr := h
  skip
  refine lv_aload_n hx hb dX9_clear_0 rfl (lv_at hl 0 rfl) ?_
  refine rg_X9_192 X hW dX9_clear_1 ?_
  refine lv_topi (fun v4 e4 => ?_)
  have h := lb_letI e4 h
  refine lv_istore_n (lv' := [(1, .int v4), (0, .ref (lb_ad G 53))]) hx hb dX9_clear_4 rfl hl (by decide) rfl (fun ls hl => ?_)
  refine lv_aload_n hx hb dX9_clear_5 rfl (lv_at hl 1 rfl) ?_
  refine lv_iconst (v := 0) hx hb dX9_clear_6 rfl ?_
  refine rp_X9_192 X hW dX9_clear_7 (fun H locs hW => ?_)
  obtain ⟨s7, e7⟩ : ∃ z, z = lb_sto σ 53 9 (0 : Int32) := ⟨_, rfl⟩
  rw [← e7] at hW
  have h := lb_letI e7 h
  refine lv_iload_n hx hb dX9_clear_10 rfl (lv_at hl 0 rfl) ?_
  obtain rfl := Option.some.inj h
  exact lb_iret X hW dX9_clear_11
abbrev rmX9_drawn : Room := { frames := 0, cells := 0, slots := 0, locals := 0 }
def f_X9_drawn (x1 : Int32) (σ : lb_Mem) : Option (Int32 × lb_Mem) := lb_let (lb_sto σ 53 12 (((σ 53 12) * (1664525 : Int32)) + (1013904223 : Int32))) (fun s11 : lb_Mem => lb_chk (x1 != 0) (some (((((s11 53 12) &&& (2147483647 : Int32)) / (256 : Int32)) - (((s11 53 12) &&& (2147483647 : Int32)) / (256 : Int32)) / x1 * x1), s11)))
set_option maxRecDepth 20000 in
set_option maxHeartbeats 4000000 in
theorem m_X9_drawn (l : Launch) (G : lb_G) (σ : lb_Mem) (x1 : Int32) (qr : (Int32 × lb_Mem)) (h : f_X9_drawn x1 σ = some qr) : lb_M l yX9_drawn cX9_drawn 2 (some .int) rmX9_drawn [.ref (lb_ad G 53), .int x1] G σ (lb_QI G qr.1 qr.2) := by
  refine lb_start RX9 (by decide +kernel) rfl (Nat.le_of_ble_eq_true rfl) (fun p e s m below meth c X hW ls hl => ?_)
  have hx := X.1
  have hb := X.2.1
  have hl : lv_has ls 2 [(0, .ref (lb_ad G 53)), (1, .int x1)] := hl
  have h : (lb_let (lb_sto σ 53 12 (((σ 53 12) * (1664525 : Int32)) + (1013904223 : Int32))) (fun s11 : lb_Mem => lb_chk (x1 != 0) (some (((((s11 53 12) &&& (2147483647 : Int32)) / (256 : Int32)) - (((s11 53 12) &&& (2147483647 : Int32)) / (256 : Int32)) / x1 * x1), s11)))) = some qr := h
  skip
  refine lv_aload_n hx hb dX9_drawn_0 rfl (lv_at hl 0 rfl) ?_
  refine lv_aload_n hx hb dX9_drawn_1 rfl (lv_at hl 0 rfl) ?_
  refine rg_X9_195 X hW dX9_drawn_2 ?_
  refine lv_ldc (v := 1664525) hx hb X.2.2.2.1 (X.2.2.2.2.1 _ qw_1113) dX9_drawn_5 ?_
  refine lv_imul hx hb dX9_drawn_7 ?_
  refine lv_ldc (v := 1013904223) hx hb X.2.2.2.1 (X.2.2.2.2.1 _ qw_1114) dX9_drawn_8 ?_
  refine lv_iadd hx hb dX9_drawn_10 ?_
  refine rp_X9_195 X hW dX9_drawn_11 (fun H locs hW => ?_)
  obtain ⟨s11, e11⟩ : ∃ z, z = lb_sto σ 53 12 (((σ 53 12) * (1664525 : Int32)) + (1013904223 : Int32)) := ⟨_, rfl⟩
  rw [← e11] at hW
  have h := lb_letI e11 h
  refine lv_aload_n hx hb dX9_drawn_14 rfl (lv_at hl 0 rfl) ?_
  refine rg_X9_195 X hW dX9_drawn_15 ?_
  refine lv_ldc (v := 2147483647) hx hb X.2.2.2.1 (X.2.2.2.2.1 _ qw_1115) dX9_drawn_18 ?_
  refine lv_iand hx hb dX9_drawn_20 ?_
  refine lv_sipush (v := 256) hx hb dX9_drawn_21 rfl ?_
  refine lv_idiv hx hb dX9_drawn_24 (by decide) ?_
  refine lv_iload_n hx hb dX9_drawn_25 rfl (lv_at hl 1 rfl) ?_
  obtain ⟨z26, h⟩ := lb_chk_nz h
  refine lv_irem hx hb dX9_drawn_26 z26 ?_
  obtain rfl := Option.some.inj h
  exact lb_iret X hW dX9_drawn_27
theorem rc_X9_201 {p : Program} {l : Launch} {e : Env} {R : Room} {s : State} {m : MethodId} {args : Array Value} {below : List Frame} {meth : Method} {c : Code} {H : Heap} {locs : List Loc} {cells slots : Nat} {Q : State → Prop} {cc : ByteArray} {pc nL : Nat} {ls : Array Slot} {rest : List Value} {G : lb_G} {σ : lb_Mem} {ret : Option FieldType} (X : lb_C G p s m args meth c cc nL RX9 ret) (hW : lb_W G s σ H locs) {x1 : Int32} {qr : (Int32 × lb_Mem)} (h : f_X9_drawn x1 σ = some qr) (hR : lb_room rmX9_drawn R 2) (hls : ls.size = nL) (hrest : (rest.map fun v => v.category).sum ≤ 8) (d : decode cc pc = .ok (.invokevirtual 201, 3)) (hcap : cells ≤ R.cells ∧ slots ≤ R.slots) (kk : ∀ (H1 : Heap) (locs1 : List Loc), lb_W G s qr.2 H1 locs1 → W p l e R s m args below meth c H1 locs1 cells slots Q (F0 m (pc + 3) ls (.int qr.1 :: rest))) : W p l e R s m args below meth c H locs cells slots Q (F0 m pc ls (.int x1 :: .ref (lb_ad G 53) :: rest)) :=
  lb_goI hW (lb_runV (As := [.int x1]) X hW (m_X9_drawn l G σ x1 qr h) (n := 1) ⟨qw_1109, qw_52, qw_1112, by decide +kernel⟩ hR qw_1111 qw_41 lb_is53 rfl hls hrest d hcap) kk
abbrev rmX9_lots : Room := { frames := 5, cells := 0, slots := 0, locals := 111 }
def f_X9_lots_181 (kc52 : Int32 → Int32 → Int32 → Int32 → lb_Mem → Option (Int32 × lb_Mem)) (x1 : Int32) (x3 : Int32) (x4 : Int32) (x5 : Int32) (σ : lb_Mem) : Option (Int32 × lb_Mem) := if x3 = 0 then (f_X9_allGrace σ 55).bind (fun q191 => lb_let ((x4 + q191)) (fun v199 : Int32 => kc52 x1 x3 v199 (x5 + 1) σ)) else lb_let ((x4 + (0 : Int32))) (fun v199 : Int32 => kc52 x1 x3 v199 (x5 + 1) σ)
set_option maxRecDepth 20000 in
set_option maxHeartbeats 4000000 in
theorem w_X9_lots_181 {p : Program} {l : Launch} {e : Env} {s : State} {m : MethodId} {args : Array Value} {below : List Frame} {meth : Method} {c : Code} {G : lb_G} {qr : (Int32 × lb_Mem)} (X : lb_C G p s m args meth c cX9_lots 7 RX9 (some .int)) {kc52 : Int32 → Int32 → Int32 → Int32 → lb_Mem → Option (Int32 × lb_Mem)} (hc52 : ∀ (x1 : Int32) (x3 : Int32) (x4 : Int32) (x5 : Int32) (σ : lb_Mem) (H : Heap) (locs : List Loc) (ls : Array Slot), kc52 x1 x3 x4 x5 σ = some qr → lb_W G s σ H locs → lv_has ls 7 [(0, .ref (lb_ad G 53)), (1, .int x1), (3, .int x3), (4, .int x4), (5, .int x5)] → W p l e rmX9_lots s m args below meth c H locs 0 0 (MQ below (lb_QI G qr.1 qr.2) args s 0 0 (lb_A G)) (F0 m 52 ls [])) : ∀ (x1 : Int32) (x3 : Int32) (x4 : Int32) (x5 : Int32) (σ : lb_Mem) (H : Heap) (locs : List Loc) (ls : Array Slot), f_X9_lots_181 kc52 x1 x3 x4 x5 σ = some qr → lb_W G s σ H locs → lv_has ls 7 [(0, .ref (lb_ad G 53)), (1, .int x1), (3, .int x3), (4, .int x4), (5, .int x5)] → W p l e rmX9_lots s m args below meth c H locs 0 0 (MQ below (lb_QI G qr.1 qr.2) args s 0 0 (lb_A G)) (F0 m 181 ls []) := by
  have hx := X.1
  have hb := X.2.1
  intro x1 x3 x4 x5 σ H locs ls h hW hl
  have h : (if x3 = 0 then (f_X9_allGrace σ 55).bind (fun q191 => lb_let ((x4 + q191)) (fun v199 : Int32 => kc52 x1 x3 v199 (x5 + 1) σ)) else lb_let ((x4 + (0 : Int32))) (fun v199 : Int32 => kc52 x1 x3 v199 (x5 + 1) σ)) = some qr := h
  refine lv_iload hx hb dX9_lots_181 (lv_at hl 3 rfl) ?_
  refine lv_iload_n hx hb dX9_lots_183 rfl (lv_at hl 2 rfl) ?_
  refine lv_if_ne (tgt := 197) hx hb dX9_lots_184 (by decide) (fun c184 => ?_) (fun c184 => ?_)
  · have h := (if_neg c184).symm.trans h
    refine lv_iconst (v := 0) hx hb dX9_lots_197 rfl ?_
    refine lv_iadd hx hb dX9_lots_198 ?_
    refine lv_topi (fun v199 e199 => ?_)
    have h := lb_letI e199 h
    refine lv_istore (lv' := [(4, .int v199), (0, .ref (lb_ad G 53)), (1, .int x1), (3, .int x3), (5, .int x5)]) hx hb dX9_lots_199 hl (by decide) rfl (fun ls hl => ?_)
    refine lv_iinc (v := (x5 + 1)) (lv' := [(5, .int (x5 + 1)), (4, .int v199), (0, .ref (lb_ad G 53)), (1, .int x1), (3, .int x3)]) hx hb dX9_lots_201 hl (k := 4) rfl rfl (by decide) rfl (fun ls hl => ?_)
    refine lv_goto (tgt := 52) hx hb dX9_lots_204 (by decide) ?_
    exact hc52 x1 x3 v199 (x5 + 1) σ _ _ _ h hW (lv_sub hl [2, 3, 4, 1, 0] rfl)
  · have h := (if_pos c184).symm.trans h
    refine lv_aload_n hx hb dX9_lots_187 rfl (lv_at hl 0 rfl) ?_
    refine rg_X9_13 X hW dX9_lots_188 ?_
    obtain ⟨q191, e191, h⟩ := lb_bind h
    refine rc_X9_129 X hW (show lb_ar 55 = 60 + 1 from rfl) e191 ⟨⟨rfl, rfl⟩, Nat.le_of_ble_eq_true rfl, Nat.le_of_ble_eq_true rfl⟩ hl.1 (Nat.le_of_ble_eq_true rfl) dX9_lots_191 ⟨Nat.zero_le _, Nat.zero_le _⟩ (fun H locs hW => ?_)
    refine lv_goto (tgt := 198) hx hb dX9_lots_194 (by decide) ?_
    refine lv_iadd hx hb dX9_lots_198 ?_
    refine lv_topi (fun v199 e199 => ?_)
    have h := lb_letI e199 h
    refine lv_istore (lv' := [(4, .int v199), (0, .ref (lb_ad G 53)), (1, .int x1), (3, .int x3), (5, .int x5)]) hx hb dX9_lots_199 hl (by decide) rfl (fun ls hl => ?_)
    refine lv_iinc (v := (x5 + 1)) (lv' := [(5, .int (x5 + 1)), (4, .int v199), (0, .ref (lb_ad G 53)), (1, .int x1), (3, .int x3)]) hx hb dX9_lots_201 hl (k := 4) rfl rfl (by decide) rfl (fun ls hl => ?_)
    refine lv_goto (tgt := 52) hx hb dX9_lots_204 (by decide) ?_
    exact hc52 x1 x3 v199 (x5 + 1) σ _ _ _ h hW (lv_sub hl [2, 3, 4, 1, 0] rfl)
def f_X9_lots_135 (kc52 : Int32 → Int32 → Int32 → Int32 → lb_Mem → Option (Int32 × lb_Mem)) : Nat → Int32 → Int32 → Int32 → Int32 → Int32 → lb_Mem → Option (Int32 × lb_Mem)
  | 0, _, _, _, _, _, _ => none
  | n + 1, x1, x3, x4, x5, x6, σ => if (σ 54 (1 : Int32).toNatClampNeg) ≤ x6 then f_X9_lots_181 kc52 x1 x3 x4 x5 σ else if x3 = (1 : Int32) then lb_chk (lb_ix (f_X9_ofP x6 (1 : Int32)) 61) (if (σ 55 (f_X9_ofP x6 (1 : Int32)).toNatClampNeg) = 0 then lb_let ((x4 + (1 : Int32))) (fun v173 : Int32 => f_X9_lots_135 kc52 n x1 x3 v173 x5 (x6 + 1) σ) else lb_let ((x4 + (0 : Int32))) (fun v173 : Int32 => f_X9_lots_135 kc52 n x1 x3 v173 x5 (x6 + 1) σ)) else f_X9_lots_181 kc52 x1 x3 x4 x5 σ
set_option maxRecDepth 20000 in
set_option maxHeartbeats 4000000 in
theorem w_X9_lots_135 {p : Program} {l : Launch} {e : Env} {s : State} {m : MethodId} {args : Array Value} {below : List Frame} {meth : Method} {c : Code} {G : lb_G} {qr : (Int32 × lb_Mem)} (X : lb_C G p s m args meth c cX9_lots 7 RX9 (some .int)) {kc52 : Int32 → Int32 → Int32 → Int32 → lb_Mem → Option (Int32 × lb_Mem)} (hc52 : ∀ (x1 : Int32) (x3 : Int32) (x4 : Int32) (x5 : Int32) (σ : lb_Mem) (H : Heap) (locs : List Loc) (ls : Array Slot), kc52 x1 x3 x4 x5 σ = some qr → lb_W G s σ H locs → lv_has ls 7 [(0, .ref (lb_ad G 53)), (1, .int x1), (3, .int x3), (4, .int x4), (5, .int x5)] → W p l e rmX9_lots s m args below meth c H locs 0 0 (MQ below (lb_QI G qr.1 qr.2) args s 0 0 (lb_A G)) (F0 m 52 ls [])) : ∀ (n : Nat) (x1 : Int32) (x3 : Int32) (x4 : Int32) (x5 : Int32) (x6 : Int32) (σ : lb_Mem) (H : Heap) (locs : List Loc) (ls : Array Slot), f_X9_lots_135 kc52 n x1 x3 x4 x5 x6 σ = some qr → lb_W G s σ H locs → lv_has ls 7 [(0, .ref (lb_ad G 53)), (1, .int x1), (3, .int x3), (4, .int x4), (5, .int x5), (6, .int x6)] → W p l e rmX9_lots s m args below meth c H locs 0 0 (MQ below (lb_QI G qr.1 qr.2) args s 0 0 (lb_A G)) (F0 m 135 ls []) := by
  have hx := X.1
  have hb := X.2.1
  intro n
  induction n with
  | zero => intro x1 x3 x4 x5 x6 σ H locs ls h hW hl; exact absurd h (fun z => by cases z)
  | succ n ih =>
    intro x1 x3 x4 x5 x6 σ H locs ls h hW hl
    have h : (if (σ 54 (1 : Int32).toNatClampNeg) ≤ x6 then f_X9_lots_181 kc52 x1 x3 x4 x5 σ else if x3 = (1 : Int32) then lb_chk (lb_ix (f_X9_ofP x6 (1 : Int32)) 61) (if (σ 55 (f_X9_ofP x6 (1 : Int32)).toNatClampNeg) = 0 then lb_let ((x4 + (1 : Int32))) (fun v173 : Int32 => f_X9_lots_135 kc52 n x1 x3 v173 x5 (x6 + 1) σ) else lb_let ((x4 + (0 : Int32))) (fun v173 : Int32 => f_X9_lots_135 kc52 n x1 x3 v173 x5 (x6 + 1) σ)) else f_X9_lots_181 kc52 x1 x3 x4 x5 σ) = some qr := h
    refine lv_iload hx hb dX9_lots_135 (lv_at hl 5 rfl) ?_
    refine lv_aload_n hx hb dX9_lots_137 rfl (lv_at hl 0 rfl) ?_
    refine rg_X9_9 X hW dX9_lots_138 ?_
    refine lv_iconst (v := 1) hx hb dX9_lots_141 rfl ?_
    refine lb_ild X hW (show lb_ar 54 = 60 + 1 from rfl) (lb_inC rfl) dX9_lots_142 ?_
    refine lv_icmp_ge (tgt := 181) hx hb dX9_lots_143 (by decide) (fun c143 => ?_) (fun c143 => ?_)
    · have h := (if_pos c143).symm.trans h
      exact w_X9_lots_181 X hc52 x1 x3 x4 x5 σ _ _ _ h hW (lv_sub hl [0, 1, 2, 3, 4] rfl)
    · have h := (if_neg c143).symm.trans h
      refine lv_iload_n hx hb dX9_lots_146 rfl (lv_at hl 2 rfl) ?_
      refine lv_iconst (v := 1) hx hb dX9_lots_147 rfl ?_
      refine lv_icmp_ne (tgt := 181) hx hb dX9_lots_148 (by decide) (fun c148 => ?_) (fun c148 => ?_)
      · have h := (if_neg c148).symm.trans h
        exact w_X9_lots_181 X hc52 x1 x3 x4 x5 σ _ _ _ h hW (lv_sub hl [0, 1, 2, 3, 4] rfl)
      · have h := (if_pos c148).symm.trans h
        refine lv_iload hx hb dX9_lots_151 (lv_at hl 3 rfl) ?_
        refine lv_aload_n hx hb dX9_lots_153 rfl (lv_at hl 0 rfl) ?_
        refine rg_X9_13 X hW dX9_lots_154 ?_
        refine lv_iload hx hb dX9_lots_157 (lv_at hl 5 rfl) ?_
        refine lv_iconst (v := 1) hx hb dX9_lots_159 rfl ?_
        refine rc_X9_52 X hW x6 (1 : Int32) ⟨⟨rfl, rfl⟩, Nat.le_of_ble_eq_true rfl, Nat.le_of_ble_eq_true rfl⟩ hl.1 (Nat.le_of_ble_eq_true rfl) dX9_lots_160 ⟨Nat.zero_le _, Nat.zero_le _⟩ (fun H locs hW => ?_)
        obtain ⟨i163, h⟩ := lb_chk_in h
        refine lb_ild X hW (show lb_ar 55 = 60 + 1 from rfl) i163 dX9_lots_163 ?_
        refine lv_if_ne (tgt := 171) hx hb dX9_lots_164 (by decide) (fun c164 => ?_) (fun c164 => ?_)
        · have h := (if_neg c164).symm.trans h
          refine lv_iconst (v := 0) hx hb dX9_lots_171 rfl ?_
          refine lv_iadd hx hb dX9_lots_172 ?_
          refine lv_topi (fun v173 e173 => ?_)
          have h := lb_letI e173 h
          refine lv_istore (lv' := [(4, .int v173), (0, .ref (lb_ad G 53)), (1, .int x1), (3, .int x3), (5, .int x5), (6, .int x6)]) hx hb dX9_lots_173 hl (by decide) rfl (fun ls hl => ?_)
          refine lv_iinc (v := (x6 + 1)) (lv' := [(6, .int (x6 + 1)), (4, .int v173), (0, .ref (lb_ad G 53)), (1, .int x1), (3, .int x3), (5, .int x5)]) hx hb dX9_lots_175 hl (k := 5) rfl rfl (by decide) rfl (fun ls hl => ?_)
          refine lv_goto (tgt := 135) hx hb dX9_lots_178 (by decide) ?_
          exact ih x1 x3 v173 x5 (x6 + 1) σ _ _ _ h hW (lv_sub hl [2, 3, 4, 1, 5, 0] rfl)
        · have h := (if_pos c164).symm.trans h
          refine lv_iconst (v := 1) hx hb dX9_lots_167 rfl ?_
          refine lv_goto (tgt := 172) hx hb dX9_lots_168 (by decide) ?_
          refine lv_iadd hx hb dX9_lots_172 ?_
          refine lv_topi (fun v173 e173 => ?_)
          have h := lb_letI e173 h
          refine lv_istore (lv' := [(4, .int v173), (0, .ref (lb_ad G 53)), (1, .int x1), (3, .int x3), (5, .int x5), (6, .int x6)]) hx hb dX9_lots_173 hl (by decide) rfl (fun ls hl => ?_)
          refine lv_iinc (v := (x6 + 1)) (lv' := [(6, .int (x6 + 1)), (4, .int v173), (0, .ref (lb_ad G 53)), (1, .int x1), (3, .int x3), (5, .int x5)]) hx hb dX9_lots_175 hl (k := 5) rfl rfl (by decide) rfl (fun ls hl => ?_)
          refine lv_goto (tgt := 135) hx hb dX9_lots_178 (by decide) ?_
          exact ih x1 x3 v173 x5 (x6 + 1) σ _ _ _ h hW (lv_sub hl [2, 3, 4, 1, 5, 0] rfl)
def f_X9_lots_72 (kc52 : Int32 → Int32 → Int32 → Int32 → lb_Mem → Option (Int32 × lb_Mem)) : Nat → Int32 → Int32 → Int32 → Int32 → Int32 → lb_Mem → Option (Int32 × lb_Mem)
  | 0, _, _, _, _, _, _ => none
  | n + 1, x1, x3, x4, x5, x6, σ => if (σ 54 (0 : Int32).toNatClampNeg) ≤ x6 then (f_X9_yearsOn 55 (6 : Int32) σ).bind (fun s129 => f_X9_lots_135 kc52 lb_N x1 x3 x4 x5 (0 : Int32) s129) else (f_X9_drawn (7 : Int32) σ).bind (fun q96 => lb_chk (lb_ix (f_X9_ofT x6 (3 : Int32)) 61) (lb_let (lb_sto q96.2 55 (f_X9_ofT x6 (3 : Int32)).toNatClampNeg q96.1) (fun s99 : lb_Mem => (f_X9_drawn (10 : Int32) s99).bind (fun q113 => lb_chk (lb_ix (f_X9_ofT x6 (4 : Int32)) 61) (lb_let (lb_sto q113.2 55 (f_X9_ofT x6 (4 : Int32)).toNatClampNeg q113.1) (fun s116 : lb_Mem => f_X9_lots_72 kc52 n x1 x3 x4 x5 (x6 + 1) s116))))))
set_option maxRecDepth 20000 in
set_option maxHeartbeats 4000000 in
theorem w_X9_lots_72 {p : Program} {l : Launch} {e : Env} {s : State} {m : MethodId} {args : Array Value} {below : List Frame} {meth : Method} {c : Code} {G : lb_G} {qr : (Int32 × lb_Mem)} (X : lb_C G p s m args meth c cX9_lots 7 RX9 (some .int)) {kc52 : Int32 → Int32 → Int32 → Int32 → lb_Mem → Option (Int32 × lb_Mem)} (hc52 : ∀ (x1 : Int32) (x3 : Int32) (x4 : Int32) (x5 : Int32) (σ : lb_Mem) (H : Heap) (locs : List Loc) (ls : Array Slot), kc52 x1 x3 x4 x5 σ = some qr → lb_W G s σ H locs → lv_has ls 7 [(0, .ref (lb_ad G 53)), (1, .int x1), (3, .int x3), (4, .int x4), (5, .int x5)] → W p l e rmX9_lots s m args below meth c H locs 0 0 (MQ below (lb_QI G qr.1 qr.2) args s 0 0 (lb_A G)) (F0 m 52 ls [])) : ∀ (n : Nat) (x1 : Int32) (x3 : Int32) (x4 : Int32) (x5 : Int32) (x6 : Int32) (σ : lb_Mem) (H : Heap) (locs : List Loc) (ls : Array Slot), f_X9_lots_72 kc52 n x1 x3 x4 x5 x6 σ = some qr → lb_W G s σ H locs → lv_has ls 7 [(0, .ref (lb_ad G 53)), (1, .int x1), (3, .int x3), (4, .int x4), (5, .int x5), (6, .int x6)] → W p l e rmX9_lots s m args below meth c H locs 0 0 (MQ below (lb_QI G qr.1 qr.2) args s 0 0 (lb_A G)) (F0 m 72 ls []) := by
  have hx := X.1
  have hb := X.2.1
  intro n
  induction n with
  | zero => intro x1 x3 x4 x5 x6 σ H locs ls h hW hl; exact absurd h (fun z => by cases z)
  | succ n ih =>
    intro x1 x3 x4 x5 x6 σ H locs ls h hW hl
    have h : (if (σ 54 (0 : Int32).toNatClampNeg) ≤ x6 then (f_X9_yearsOn 55 (6 : Int32) σ).bind (fun s129 => f_X9_lots_135 kc52 lb_N x1 x3 x4 x5 (0 : Int32) s129) else (f_X9_drawn (7 : Int32) σ).bind (fun q96 => lb_chk (lb_ix (f_X9_ofT x6 (3 : Int32)) 61) (lb_let (lb_sto q96.2 55 (f_X9_ofT x6 (3 : Int32)).toNatClampNeg q96.1) (fun s99 : lb_Mem => (f_X9_drawn (10 : Int32) s99).bind (fun q113 => lb_chk (lb_ix (f_X9_ofT x6 (4 : Int32)) 61) (lb_let (lb_sto q113.2 55 (f_X9_ofT x6 (4 : Int32)).toNatClampNeg q113.1) (fun s116 : lb_Mem => f_X9_lots_72 kc52 n x1 x3 x4 x5 (x6 + 1) s116))))))) = some qr := h
    refine lv_iload hx hb dX9_lots_72 (lv_at hl 5 rfl) ?_
    refine lv_aload_n hx hb dX9_lots_74 rfl (lv_at hl 0 rfl) ?_
    refine rg_X9_9 X hW dX9_lots_75 ?_
    refine lv_iconst (v := 0) hx hb dX9_lots_78 rfl ?_
    refine lb_ild X hW (show lb_ar 54 = 60 + 1 from rfl) (lb_inC rfl) dX9_lots_79 ?_
    refine lv_icmp_ge (tgt := 123) hx hb dX9_lots_80 (by decide) (fun c80 => ?_) (fun c80 => ?_)
    · have h := (if_pos c80).symm.trans h
      refine lv_aload_n hx hb dX9_lots_123 rfl (lv_at hl 0 rfl) ?_
      refine rg_X9_13 X hW dX9_lots_124 ?_
      refine lv_bipush (v := 6) hx hb dX9_lots_127 rfl ?_
      obtain ⟨s129, e129, h⟩ := lb_bind h
      refine rc_X9_105 X hW (show lb_ar 55 = 60 + 1 from rfl) e129 ⟨⟨rfl, rfl⟩, Nat.le_of_ble_eq_true rfl, Nat.le_of_ble_eq_true rfl⟩ hl.1 (Nat.le_of_ble_eq_true rfl) dX9_lots_129 ⟨Nat.zero_le _, Nat.zero_le _⟩ (fun H locs hW => ?_)
      refine lv_iconst (v := 0) hx hb dX9_lots_132 rfl ?_
      refine lv_istore (lv' := [(6, .int (0 : Int32)), (0, .ref (lb_ad G 53)), (1, .int x1), (3, .int x3), (4, .int x4), (5, .int x5)]) hx hb dX9_lots_133 hl (by decide) rfl (fun ls hl => ?_)
      exact w_X9_lots_135 X hc52 lb_N x1 x3 x4 x5 (0 : Int32) s129 _ _ _ h hW (lv_sub hl [1, 2, 3, 4, 5, 0] rfl)
    · have h := (if_neg c80).symm.trans h
      refine lv_aload_n hx hb dX9_lots_83 rfl (lv_at hl 0 rfl) ?_
      refine rg_X9_13 X hW dX9_lots_84 ?_
      refine lv_iload hx hb dX9_lots_87 (lv_at hl 5 rfl) ?_
      refine lv_iconst (v := 3) hx hb dX9_lots_89 rfl ?_
      refine rc_X9_45 X hW x6 (3 : Int32) ⟨⟨rfl, rfl⟩, Nat.le_of_ble_eq_true rfl, Nat.le_of_ble_eq_true rfl⟩ hl.1 (Nat.le_of_ble_eq_true rfl) dX9_lots_90 ⟨Nat.zero_le _, Nat.zero_le _⟩ (fun H locs hW => ?_)
      refine lv_aload_n hx hb dX9_lots_93 rfl (lv_at hl 0 rfl) ?_
      refine lv_bipush (v := 7) hx hb dX9_lots_94 rfl ?_
      obtain ⟨q96, e96, h⟩ := lb_bind h
      refine rc_X9_201 X hW e96 ⟨⟨rfl, rfl⟩, Nat.le_of_ble_eq_true rfl, Nat.le_of_ble_eq_true rfl⟩ hl.1 (Nat.le_of_ble_eq_true rfl) dX9_lots_96 ⟨Nat.zero_le _, Nat.zero_le _⟩ (fun H locs hW => ?_)
      obtain ⟨i99, h⟩ := lb_chk_in h
      refine lb_ist X hW (show lb_ar 55 = 60 + 1 from rfl) i99 dX9_lots_99 (fun H locs hW => ?_)
      obtain ⟨s99, e99⟩ : ∃ z, z = lb_sto q96.2 55 (f_X9_ofT x6 (3 : Int32)).toNatClampNeg q96.1 := ⟨_, rfl⟩
      rw [← e99] at hW
      have h := lb_letI e99 h
      refine lv_aload_n hx hb dX9_lots_100 rfl (lv_at hl 0 rfl) ?_
      refine rg_X9_13 X hW dX9_lots_101 ?_
      refine lv_iload hx hb dX9_lots_104 (lv_at hl 5 rfl) ?_
      refine lv_iconst (v := 4) hx hb dX9_lots_106 rfl ?_
      refine rc_X9_45 X hW x6 (4 : Int32) ⟨⟨rfl, rfl⟩, Nat.le_of_ble_eq_true rfl, Nat.le_of_ble_eq_true rfl⟩ hl.1 (Nat.le_of_ble_eq_true rfl) dX9_lots_107 ⟨Nat.zero_le _, Nat.zero_le _⟩ (fun H locs hW => ?_)
      refine lv_aload_n hx hb dX9_lots_110 rfl (lv_at hl 0 rfl) ?_
      refine lv_bipush (v := 10) hx hb dX9_lots_111 rfl ?_
      obtain ⟨q113, e113, h⟩ := lb_bind h
      refine rc_X9_201 X hW e113 ⟨⟨rfl, rfl⟩, Nat.le_of_ble_eq_true rfl, Nat.le_of_ble_eq_true rfl⟩ hl.1 (Nat.le_of_ble_eq_true rfl) dX9_lots_113 ⟨Nat.zero_le _, Nat.zero_le _⟩ (fun H locs hW => ?_)
      obtain ⟨i116, h⟩ := lb_chk_in h
      refine lb_ist X hW (show lb_ar 55 = 60 + 1 from rfl) i116 dX9_lots_116 (fun H locs hW => ?_)
      obtain ⟨s116, e116⟩ : ∃ z, z = lb_sto q113.2 55 (f_X9_ofT x6 (4 : Int32)).toNatClampNeg q113.1 := ⟨_, rfl⟩
      rw [← e116] at hW
      have h := lb_letI e116 h
      refine lv_iinc (v := (x6 + 1)) (lv' := [(6, .int (x6 + 1)), (0, .ref (lb_ad G 53)), (1, .int x1), (3, .int x3), (4, .int x4), (5, .int x5)]) hx hb dX9_lots_117 hl (k := 5) rfl rfl (by decide) rfl (fun ls hl => ?_)
      refine lv_goto (tgt := 72) hx hb dX9_lots_120 (by decide) ?_
      exact ih x1 x3 x4 x5 (x6 + 1) s116 _ _ _ h hW (lv_sub hl [1, 2, 3, 4, 5, 0] rfl)
def f_X9_lots_52 : Nat → Int32 → Int32 → Int32 → Int32 → lb_Mem → Option (Int32 × lb_Mem)
  | 0, _, _, _, _, _ => none
  | n + 1, x1, x3, x4, x5, σ => if x1 ≤ x5 then some (x4, σ) else (f_X9_copies 54 55 σ).bind (fun s66 => f_X9_lots_72 (fun (x1 : Int32) (x3 : Int32) (x4 : Int32) (x5 : Int32) (σ : lb_Mem) => f_X9_lots_52 n x1 x3 x4 x5 σ) lb_N x1 x3 x4 x5 (0 : Int32) s66)
set_option maxRecDepth 20000 in
set_option maxHeartbeats 4000000 in
theorem w_X9_lots_52 {p : Program} {l : Launch} {e : Env} {s : State} {m : MethodId} {args : Array Value} {below : List Frame} {meth : Method} {c : Code} {G : lb_G} {qr : (Int32 × lb_Mem)} (X : lb_C G p s m args meth c cX9_lots 7 RX9 (some .int)) : ∀ (n : Nat) (x1 : Int32) (x3 : Int32) (x4 : Int32) (x5 : Int32) (σ : lb_Mem) (H : Heap) (locs : List Loc) (ls : Array Slot), f_X9_lots_52 n x1 x3 x4 x5 σ = some qr → lb_W G s σ H locs → lv_has ls 7 [(0, .ref (lb_ad G 53)), (1, .int x1), (3, .int x3), (4, .int x4), (5, .int x5)] → W p l e rmX9_lots s m args below meth c H locs 0 0 (MQ below (lb_QI G qr.1 qr.2) args s 0 0 (lb_A G)) (F0 m 52 ls []) := by
  have hx := X.1
  have hb := X.2.1
  intro n
  induction n with
  | zero => intro x1 x3 x4 x5 σ H locs ls h hW hl; exact absurd h (fun z => by cases z)
  | succ n ih =>
    intro x1 x3 x4 x5 σ H locs ls h hW hl
    have h : (if x1 ≤ x5 then some (x4, σ) else (f_X9_copies 54 55 σ).bind (fun s66 => f_X9_lots_72 (fun (x1 : Int32) (x3 : Int32) (x4 : Int32) (x5 : Int32) (σ : lb_Mem) => f_X9_lots_52 n x1 x3 x4 x5 σ) lb_N x1 x3 x4 x5 (0 : Int32) s66)) = some qr := h
    refine lv_iload hx hb dX9_lots_52 (lv_at hl 4 rfl) ?_
    refine lv_iload_n hx hb dX9_lots_54 rfl (lv_at hl 1 rfl) ?_
    refine lv_icmp_ge (tgt := 207) hx hb dX9_lots_55 (by decide) (fun c55 => ?_) (fun c55 => ?_)
    · have h := (if_pos c55).symm.trans h
      refine lv_iload hx hb dX9_lots_207 (lv_at hl 3 rfl) ?_
      obtain rfl := Option.some.inj h
      exact lb_iret X hW dX9_lots_209
    · have h := (if_neg c55).symm.trans h
      refine lv_aload_n hx hb dX9_lots_58 rfl (lv_at hl 0 rfl) ?_
      refine rg_X9_9 X hW dX9_lots_59 ?_
      refine lv_aload_n hx hb dX9_lots_62 rfl (lv_at hl 0 rfl) ?_
      refine rg_X9_13 X hW dX9_lots_63 ?_
      obtain ⟨s66, e66, h⟩ := lb_bind h
      refine rc_X9_112 X hW (show lb_ar 54 = 60 + 1 from rfl) (show lb_ar 55 = 60 + 1 from rfl) e66 ⟨⟨rfl, rfl⟩, Nat.le_of_ble_eq_true rfl, Nat.le_of_ble_eq_true rfl⟩ hl.1 (Nat.le_of_ble_eq_true rfl) dX9_lots_66 ⟨Nat.zero_le _, Nat.zero_le _⟩ (fun H locs hW => ?_)
      refine lv_iconst (v := 0) hx hb dX9_lots_69 rfl ?_
      refine lv_istore (lv' := [(6, .int (0 : Int32)), (0, .ref (lb_ad G 53)), (1, .int x1), (3, .int x3), (4, .int x4), (5, .int x5)]) hx hb dX9_lots_70 hl (by decide) rfl (fun ls hl => ?_)
      exact w_X9_lots_72 X ih lb_N x1 x3 x4 x5 (0 : Int32) s66 _ _ _ h hW (lv_sub hl [1, 2, 3, 4, 5, 0] rfl)
def f_X9_lots (x1 : Int32) (x2 : Int32) (x3 : Int32) (σ : lb_Mem) : Option (Int32 × lb_Mem) := if (1 : Int32) ≤ x1 then if x1 ≤ (20 : Int32) then if (f_X9_isIn x3 (0 : Int32) (1 : Int32)) = 0 then (f_X9_no (-2 : Int32) σ).bind (fun q37 => some (q37.1, q37.2)) else lb_let (lb_sto σ 53 12 x2) (fun s43 : lb_Mem => f_X9_lots_52 lb_N x1 x3 (0 : Int32) (0 : Int32) s43) else (f_X9_no (-6 : Int32) σ).bind (fun q21 => some (q21.1, q21.2)) else (f_X9_no (-4 : Int32) σ).bind (fun q8 => some (q8.1, q8.2))
set_option maxRecDepth 20000 in
set_option maxHeartbeats 4000000 in
theorem m_X9_lots (l : Launch) (G : lb_G) (σ : lb_Mem) (x1 : Int32) (x2 : Int32) (x3 : Int32) (qr : (Int32 × lb_Mem)) (h : f_X9_lots x1 x2 x3 σ = some qr) : lb_M l yX9_lots cX9_lots 7 (some .int) rmX9_lots [.ref (lb_ad G 53), .int x1, .int x2, .int x3] G σ (lb_QI G qr.1 qr.2) := by
  refine lb_start RX9 (by decide +kernel) rfl (Nat.le_of_ble_eq_true rfl) (fun p e s m below meth c X hW ls hl => ?_)
  have hx := X.1
  have hb := X.2.1
  have hl : lv_has ls 7 [(0, .ref (lb_ad G 53)), (1, .int x1), (2, .int x2), (3, .int x3)] := hl
  have h : (if (1 : Int32) ≤ x1 then if x1 ≤ (20 : Int32) then if (f_X9_isIn x3 (0 : Int32) (1 : Int32)) = 0 then (f_X9_no (-2 : Int32) σ).bind (fun q37 => some (q37.1, q37.2)) else lb_let (lb_sto σ 53 12 x2) (fun s43 : lb_Mem => f_X9_lots_52 lb_N x1 x3 (0 : Int32) (0 : Int32) s43) else (f_X9_no (-6 : Int32) σ).bind (fun q21 => some (q21.1, q21.2)) else (f_X9_no (-4 : Int32) σ).bind (fun q8 => some (q8.1, q8.2))) = some qr := h
  skip
  refine lv_iload_n hx hb dX9_lots_0 rfl (lv_at hl 1 rfl) ?_
  refine lv_iconst (v := 1) hx hb dX9_lots_1 rfl ?_
  refine lv_icmp_ge (tgt := 12) hx hb dX9_lots_2 (by decide) (fun c2 => ?_) (fun c2 => ?_)
  · have h := (if_pos c2).symm.trans h
    refine lv_iload_n hx hb dX9_lots_12 rfl (lv_at hl 1 rfl) ?_
    refine lv_bipush (v := 20) hx hb dX9_lots_13 rfl ?_
    refine lv_icmp_le (tgt := 25) hx hb dX9_lots_15 (by decide) (fun c15 => ?_) (fun c15 => ?_)
    · have h := (if_pos c15).symm.trans h
      refine lv_iload_n hx hb dX9_lots_25 rfl (lv_at hl 3 rfl) ?_
      refine lv_iconst (v := 0) hx hb dX9_lots_26 rfl ?_
      refine lv_iconst (v := 1) hx hb dX9_lots_27 rfl ?_
      refine rc_X9_41 X hW x3 (0 : Int32) (1 : Int32) ⟨⟨rfl, rfl⟩, Nat.le_of_ble_eq_true rfl, Nat.le_of_ble_eq_true rfl⟩ hl.1 (Nat.le_of_ble_eq_true rfl) dX9_lots_28 ⟨Nat.zero_le _, Nat.zero_le _⟩ (fun H locs hW => ?_)
      refine lv_if_ne (tgt := 41) hx hb dX9_lots_31 (by decide) (fun c31 => ?_) (fun c31 => ?_)
      · have h := (if_neg c31).symm.trans h
        refine lv_aload_n hx hb dX9_lots_41 rfl (lv_at hl 0 rfl) ?_
        refine lv_iload_n hx hb dX9_lots_42 rfl (lv_at hl 2 rfl) ?_
        refine rp_X9_195 X hW dX9_lots_43 (fun H locs hW => ?_)
        obtain ⟨s43, e43⟩ : ∃ z, z = lb_sto σ 53 12 x2 := ⟨_, rfl⟩
        rw [← e43] at hW
        have h := lb_letI e43 h
        refine lv_iconst (v := 0) hx hb dX9_lots_46 rfl ?_
        refine lv_istore (lv' := [(4, .int (0 : Int32)), (0, .ref (lb_ad G 53)), (1, .int x1), (2, .int x2), (3, .int x3)]) hx hb dX9_lots_47 hl (by decide) rfl (fun ls hl => ?_)
        refine lv_iconst (v := 0) hx hb dX9_lots_49 rfl ?_
        refine lv_istore (lv' := [(5, .int (0 : Int32)), (4, .int (0 : Int32)), (0, .ref (lb_ad G 53)), (1, .int x1), (2, .int x2), (3, .int x3)]) hx hb dX9_lots_50 hl (by decide) rfl (fun ls hl => ?_)
        exact w_X9_lots_52 X lb_N x1 x3 (0 : Int32) (0 : Int32) s43 _ _ _ h hW (lv_sub hl [2, 3, 5, 1, 0] rfl)
      · have h := (if_pos c31).symm.trans h
        refine lv_aload_n hx hb dX9_lots_34 rfl (lv_at hl 0 rfl) ?_
        refine lv_bipush (v := -2) hx hb dX9_lots_35 rfl ?_
        obtain ⟨q37, e37, h⟩ := lb_bind h
        refine rc_X9_35 X hW e37 ⟨⟨rfl, rfl⟩, Nat.le_of_ble_eq_true rfl, Nat.le_of_ble_eq_true rfl⟩ hl.1 (Nat.le_of_ble_eq_true rfl) dX9_lots_37 ⟨Nat.zero_le _, Nat.zero_le _⟩ (fun H locs hW => ?_)
        obtain rfl := Option.some.inj h
        exact lb_iret X hW dX9_lots_40
    · have h := (if_neg c15).symm.trans h
      refine lv_aload_n hx hb dX9_lots_18 rfl (lv_at hl 0 rfl) ?_
      refine lv_bipush (v := -6) hx hb dX9_lots_19 rfl ?_
      obtain ⟨q21, e21, h⟩ := lb_bind h
      refine rc_X9_35 X hW e21 ⟨⟨rfl, rfl⟩, Nat.le_of_ble_eq_true rfl, Nat.le_of_ble_eq_true rfl⟩ hl.1 (Nat.le_of_ble_eq_true rfl) dX9_lots_21 ⟨Nat.zero_le _, Nat.zero_le _⟩ (fun H locs hW => ?_)
      obtain rfl := Option.some.inj h
      exact lb_iret X hW dX9_lots_24
  · have h := (if_neg c2).symm.trans h
    refine lv_aload_n hx hb dX9_lots_5 rfl (lv_at hl 0 rfl) ?_
    refine lv_bipush (v := -4) hx hb dX9_lots_6 rfl ?_
    obtain ⟨q8, e8, h⟩ := lb_bind h
    refine rc_X9_35 X hW e8 ⟨⟨rfl, rfl⟩, Nat.le_of_ble_eq_true rfl, Nat.le_of_ble_eq_true rfl⟩ hl.1 (Nat.le_of_ble_eq_true rfl) dX9_lots_8 ⟨Nat.zero_le _, Nat.zero_le _⟩ (fun H locs hW => ?_)
    obtain rfl := Option.some.inj h
    exact lb_iret X hW dX9_lots_11
abbrev rmX9_image : Room := { frames := 1, cells := 0, slots := 0, locals := 22 }
def f_X9_image (σ : lb_Mem) : Option (Int32 × lb_Mem) := (f_X9_copies 54 56 σ).bind (fun s8 => lb_let (lb_sto s8 53 4 (1 : Int32)) (fun s13 : lb_Mem => some ((s13 54 (2 : Int32).toNatClampNeg), s13)))
set_option maxRecDepth 20000 in
set_option maxHeartbeats 4000000 in
theorem m_X9_image (l : Launch) (G : lb_G) (σ : lb_Mem) (qr : (Int32 × lb_Mem)) (h : f_X9_image σ = some qr) : lb_M l yX9_image cX9_image 1 (some .int) rmX9_image [.ref (lb_ad G 53)] G σ (lb_QI G qr.1 qr.2) := by
  refine lb_start RX9 (by decide +kernel) rfl (Nat.le_of_ble_eq_true rfl) (fun p e s m below meth c X hW ls hl => ?_)
  have hx := X.1
  have hb := X.2.1
  have hl : lv_has ls 1 [(0, .ref (lb_ad G 53))] := hl
  have h : ((f_X9_copies 54 56 σ).bind (fun s8 => lb_let (lb_sto s8 53 4 (1 : Int32)) (fun s13 : lb_Mem => some ((s13 54 (2 : Int32).toNatClampNeg), s13)))) = some qr := h
  skip
  refine lv_aload_n hx hb dX9_image_0 rfl (lv_at hl 0 rfl) ?_
  refine rg_X9_9 X hW dX9_image_1 ?_
  refine lv_aload_n hx hb dX9_image_4 rfl (lv_at hl 0 rfl) ?_
  refine rg_X9_16 X hW dX9_image_5 ?_
  obtain ⟨s8, e8, h⟩ := lb_bind h
  refine rc_X9_112 X hW (show lb_ar 54 = 60 + 1 from rfl) (show lb_ar 56 = 60 + 1 from rfl) e8 ⟨⟨rfl, rfl⟩, Nat.le_of_ble_eq_true rfl, Nat.le_of_ble_eq_true rfl⟩ hl.1 (Nat.le_of_ble_eq_true rfl) dX9_image_8 ⟨Nat.zero_le _, Nat.zero_le _⟩ (fun H locs hW => ?_)
  refine lv_aload_n hx hb dX9_image_11 rfl (lv_at hl 0 rfl) ?_
  refine lv_iconst (v := 1) hx hb dX9_image_12 rfl ?_
  refine rp_X9_204 X hW rfl rfl dX9_image_13 (fun H locs hW => ?_)
  obtain ⟨s13, e13⟩ : ∃ z, z = lb_sto s8 53 4 (1 : Int32) := ⟨_, rfl⟩
  rw [← e13] at hW
  have h := lb_letI e13 h
  refine lv_aload_n hx hb dX9_image_16 rfl (lv_at hl 0 rfl) ?_
  refine rg_X9_9 X hW dX9_image_17 ?_
  refine lv_iconst (v := 2) hx hb dX9_image_20 rfl ?_
  refine lb_ild X hW (show lb_ar 54 = 60 + 1 from rfl) (lb_inC rfl) dX9_image_21 ?_
  obtain rfl := Option.some.inj h
  exact lb_iret X hW dX9_image_22
abbrev rmX9_on : Room := { frames := 1, cells := 0, slots := 0, locals := 22 }
def f_X9_on (σ : lb_Mem) : Option (Int32 × lb_Mem) := if (σ 53 4) = 0 then (f_X9_no (-3 : Int32) σ).bind (fun q10 => some (q10.1, q10.2)) else (f_X9_copies 56 54 σ).bind (fun s22 => some ((s22 54 (2 : Int32).toNatClampNeg), s22))
set_option maxRecDepth 20000 in
set_option maxHeartbeats 4000000 in
theorem m_X9_on (l : Launch) (G : lb_G) (σ : lb_Mem) (qr : (Int32 × lb_Mem)) (h : f_X9_on σ = some qr) : lb_M l yX9_on cX9_on 1 (some .int) rmX9_on [.ref (lb_ad G 53)] G σ (lb_QI G qr.1 qr.2) := by
  refine lb_start RX9 (by decide +kernel) rfl (Nat.le_of_ble_eq_true rfl) (fun p e s m below meth c X hW ls hl => ?_)
  have hx := X.1
  have hb := X.2.1
  have hl : lv_has ls 1 [(0, .ref (lb_ad G 53))] := hl
  have h : (if (σ 53 4) = 0 then (f_X9_no (-3 : Int32) σ).bind (fun q10 => some (q10.1, q10.2)) else (f_X9_copies 56 54 σ).bind (fun s22 => some ((s22 54 (2 : Int32).toNatClampNeg), s22))) = some qr := h
  skip
  refine lv_aload_n hx hb dX9_on_0 rfl (lv_at hl 0 rfl) ?_
  refine rg_X9_204 X hW dX9_on_1 ?_
  refine lv_if_ne (tgt := 14) hx hb dX9_on_4 (by decide) (fun c4 => ?_) (fun c4 => ?_)
  · have h := (if_neg c4).symm.trans h
    refine lv_aload_n hx hb dX9_on_14 rfl (lv_at hl 0 rfl) ?_
    refine rg_X9_16 X hW dX9_on_15 ?_
    refine lv_aload_n hx hb dX9_on_18 rfl (lv_at hl 0 rfl) ?_
    refine rg_X9_9 X hW dX9_on_19 ?_
    obtain ⟨s22, e22, h⟩ := lb_bind h
    refine rc_X9_112 X hW (show lb_ar 56 = 60 + 1 from rfl) (show lb_ar 54 = 60 + 1 from rfl) e22 ⟨⟨rfl, rfl⟩, Nat.le_of_ble_eq_true rfl, Nat.le_of_ble_eq_true rfl⟩ hl.1 (Nat.le_of_ble_eq_true rfl) dX9_on_22 ⟨Nat.zero_le _, Nat.zero_le _⟩ (fun H locs hW => ?_)
    refine lv_aload_n hx hb dX9_on_25 rfl (lv_at hl 0 rfl) ?_
    refine rg_X9_9 X hW dX9_on_26 ?_
    refine lv_iconst (v := 2) hx hb dX9_on_29 rfl ?_
    refine lb_ild X hW (show lb_ar 54 = 60 + 1 from rfl) (lb_inC rfl) dX9_on_30 ?_
    obtain rfl := Option.some.inj h
    exact lb_iret X hW dX9_on_31
  · have h := (if_pos c4).symm.trans h
    refine lv_aload_n hx hb dX9_on_7 rfl (lv_at hl 0 rfl) ?_
    refine lv_bipush (v := -3) hx hb dX9_on_8 rfl ?_
    obtain ⟨q10, e10, h⟩ := lb_bind h
    refine rc_X9_35 X hW e10 ⟨⟨rfl, rfl⟩, Nat.le_of_ble_eq_true rfl, Nat.le_of_ble_eq_true rfl⟩ hl.1 (Nat.le_of_ble_eq_true rfl) dX9_on_10 ⟨Nat.zero_le _, Nat.zero_le _⟩ (fun H locs hW => ?_)
    obtain rfl := Option.some.inj h
    exact lb_iret X hW dX9_on_13
abbrev rmX9_count : Room := { frames := 2, cells := 0, slots := 0, locals := 43 }
def f_X9_count_89 (σ : lb_Mem) : Nat → Int32 → Int32 → Option Int32
  | 0, _, _ => none
  | n + 1, x2, x3 => if (σ 54 (0 : Int32).toNatClampNeg) ≤ x3 then some x2 else lb_chk (lb_ix (f_X9_ofT x3 (4 : Int32)) 61) (lb_let ((x2 + (σ 54 (f_X9_ofT x3 (4 : Int32)).toNatClampNeg))) (fun v111 : Int32 => f_X9_count_89 σ n v111 (x3 + 1)))
set_option maxRecDepth 20000 in
set_option maxHeartbeats 4000000 in
theorem w_X9_count_89 {p : Program} {l : Launch} {e : Env} {s : State} {m : MethodId} {args : Array Value} {below : List Frame} {meth : Method} {c : Code} {G : lb_G} {σ : lb_Mem} {qr : Int32} (X : lb_C G p s m args meth c cX9_count 4 RX9 (some .int)) : ∀ (n : Nat) (x2 : Int32) (x3 : Int32) (H : Heap) (locs : List Loc) (ls : Array Slot), f_X9_count_89 σ n x2 x3 = some qr → lb_W G s σ H locs → lv_has ls 4 [(0, .ref (lb_ad G 53)), (2, .int x2), (3, .int x3)] → W p l e rmX9_count s m args below meth c H locs 0 0 (MQ below (lb_QI G qr σ) args s 0 0 (lb_A G)) (F0 m 89 ls []) := by
  have hx := X.1
  have hb := X.2.1
  intro n
  induction n with
  | zero => intro x2 x3 H locs ls h hW hl; exact absurd h (fun z => by cases z)
  | succ n ih =>
    intro x2 x3 H locs ls h hW hl
    have h : (if (σ 54 (0 : Int32).toNatClampNeg) ≤ x3 then some x2 else lb_chk (lb_ix (f_X9_ofT x3 (4 : Int32)) 61) (lb_let ((x2 + (σ 54 (f_X9_ofT x3 (4 : Int32)).toNatClampNeg))) (fun v111 : Int32 => f_X9_count_89 σ n v111 (x3 + 1)))) = some qr := h
    refine lv_iload_n hx hb dX9_count_89 rfl (lv_at hl 2 rfl) ?_
    refine lv_aload_n hx hb dX9_count_90 rfl (lv_at hl 0 rfl) ?_
    refine rg_X9_9 X hW dX9_count_91 ?_
    refine lv_iconst (v := 0) hx hb dX9_count_94 rfl ?_
    refine lb_ild X hW (show lb_ar 54 = 60 + 1 from rfl) (lb_inC rfl) dX9_count_95 ?_
    refine lv_icmp_ge (tgt := 118) hx hb dX9_count_96 (by decide) (fun c96 => ?_) (fun c96 => ?_)
    · have h := (if_pos c96).symm.trans h
      refine lv_iload_n hx hb dX9_count_118 rfl (lv_at hl 1 rfl) ?_
      obtain rfl := Option.some.inj h
      exact lb_iret X hW dX9_count_119
    · have h := (if_neg c96).symm.trans h
      refine lv_iload_n hx hb dX9_count_99 rfl (lv_at hl 1 rfl) ?_
      refine lv_aload_n hx hb dX9_count_100 rfl (lv_at hl 0 rfl) ?_
      refine rg_X9_9 X hW dX9_count_101 ?_
      refine lv_iload_n hx hb dX9_count_104 rfl (lv_at hl 2 rfl) ?_
      refine lv_iconst (v := 4) hx hb dX9_count_105 rfl ?_
      refine rc_X9_45 X hW x3 (4 : Int32) ⟨⟨rfl, rfl⟩, Nat.le_of_ble_eq_true rfl, Nat.le_of_ble_eq_true rfl⟩ hl.1 (Nat.le_of_ble_eq_true rfl) dX9_count_106 ⟨Nat.zero_le _, Nat.zero_le _⟩ (fun H locs hW => ?_)
      obtain ⟨i109, h⟩ := lb_chk_in h
      refine lb_ild X hW (show lb_ar 54 = 60 + 1 from rfl) i109 dX9_count_109 ?_
      refine lv_iadd hx hb dX9_count_110 ?_
      refine lv_topi (fun v111 e111 => ?_)
      have h := lb_letI e111 h
      refine lv_istore_n (lv' := [(2, .int v111), (0, .ref (lb_ad G 53)), (3, .int x3)]) hx hb dX9_count_111 rfl hl (by decide) rfl (fun ls hl => ?_)
      refine lv_iinc (v := (x3 + 1)) (lv' := [(3, .int (x3 + 1)), (2, .int v111), (0, .ref (lb_ad G 53))]) hx hb dX9_count_112 hl (k := 2) rfl rfl (by decide) rfl (fun ls hl => ?_)
      refine lv_goto (tgt := 89) hx hb dX9_count_115 (by decide) ?_
      exact ih v111 (x3 + 1) _ _ _ h hW (lv_sub hl [2, 1, 0] rfl)
def f_X9_count (σ : lb_Mem) (x1 : Int32) : Option Int32 := if (f_X9_isIn x1 (11 : Int32) (16 : Int32)) = 0 then if x1 = 0 then lb_chk (lb_ix x1 61) (some (σ 54 x1.toNatClampNeg)) else if x1 = 1 then lb_chk (lb_ix x1 61) (some (σ 54 x1.toNatClampNeg)) else if x1 = 2 then lb_chk (lb_ix x1 61) (some (σ 54 x1.toNatClampNeg)) else if x1 = 3 then (f_X9_allGrace σ 54).bind (fun q83 => some q83) else if x1 = 4 then f_X9_count_89 σ lb_N (0 : Int32) (0 : Int32) else if x1 = 5 then (f_X9_honestOnes σ).bind (fun q121 => (f_X9_bits q121).bind (fun q124 => some q124)) else if x1 = 6 then some (σ 53 9) else if x1 = 7 then some (σ 53 8) else some (-9 : Int32) else lb_chk (lb_ix (x1 - (10 : Int32)) 7) (some (σ 60 (x1 - (10 : Int32)).toNatClampNeg))
set_option maxRecDepth 20000 in
set_option maxHeartbeats 4000000 in
theorem m_X9_count (l : Launch) (G : lb_G) (σ : lb_Mem) (x1 : Int32) (qr : Int32) (h : f_X9_count σ x1 = some qr) : lb_M l yX9_count cX9_count 4 (some .int) rmX9_count [.ref (lb_ad G 53), .int x1] G σ (lb_QI G qr σ) := by
  refine lb_start RX9 (by decide +kernel) rfl (Nat.le_of_ble_eq_true rfl) (fun p e s m below meth c X hW ls hl => ?_)
  have hx := X.1
  have hb := X.2.1
  have hl : lv_has ls 4 [(0, .ref (lb_ad G 53)), (1, .int x1)] := hl
  have h : (if (f_X9_isIn x1 (11 : Int32) (16 : Int32)) = 0 then if x1 = 0 then lb_chk (lb_ix x1 61) (some (σ 54 x1.toNatClampNeg)) else if x1 = 1 then lb_chk (lb_ix x1 61) (some (σ 54 x1.toNatClampNeg)) else if x1 = 2 then lb_chk (lb_ix x1 61) (some (σ 54 x1.toNatClampNeg)) else if x1 = 3 then (f_X9_allGrace σ 54).bind (fun q83 => some q83) else if x1 = 4 then f_X9_count_89 σ lb_N (0 : Int32) (0 : Int32) else if x1 = 5 then (f_X9_honestOnes σ).bind (fun q121 => (f_X9_bits q121).bind (fun q124 => some q124)) else if x1 = 6 then some (σ 53 9) else if x1 = 7 then some (σ 53 8) else some (-9 : Int32) else lb_chk (lb_ix (x1 - (10 : Int32)) 7) (some (σ 60 (x1 - (10 : Int32)).toNatClampNeg))) = some qr := h
  skip
  refine lv_iload_n hx hb dX9_count_0 rfl (lv_at hl 1 rfl) ?_
  refine lv_bipush (v := 11) hx hb dX9_count_1 rfl ?_
  refine lv_bipush (v := 16) hx hb dX9_count_3 rfl ?_
  refine rc_X9_41 X hW x1 (11 : Int32) (16 : Int32) ⟨⟨rfl, rfl⟩, Nat.le_of_ble_eq_true rfl, Nat.le_of_ble_eq_true rfl⟩ hl.1 (Nat.le_of_ble_eq_true rfl) dX9_count_5 ⟨Nat.zero_le _, Nat.zero_le _⟩ (fun H locs hW => ?_)
  refine lv_if_eq (tgt := 21) hx hb dX9_count_8 (by decide) (fun c8 => ?_) (fun c8 => ?_)
  · have h := (if_pos c8).symm.trans h
    refine lv_iconst (v := 0) hx hb dX9_count_21 rfl ?_
    refine lv_istore_n (lv' := [(2, .int (0 : Int32)), (0, .ref (lb_ad G 53)), (1, .int x1)]) hx hb dX9_count_22 rfl hl (by decide) rfl (fun ls hl => ?_)
    refine lv_iload_n hx hb dX9_count_23 rfl (lv_at hl 2 rfl) ?_
    by_cases c24_0 : x1 = 0
    · have h := (if_pos c24_0).symm.trans h
      refine lv_tableIn (tgt := 72) hx hb dX9_count_24 (by rw [c24_0]; decide) (by rw [c24_0]; decide) (off := 48) (by rw [c24_0]; rfl) (by decide) ?_
      refine lv_aload_n hx hb dX9_count_72 rfl (lv_at hl 1 rfl) ?_
      refine rg_X9_9 X hW dX9_count_73 ?_
      refine lv_iload_n hx hb dX9_count_76 rfl (lv_at hl 2 rfl) ?_
      obtain ⟨i77, h⟩ := lb_chk_in h
      refine lb_ild X hW (show lb_ar 54 = 60 + 1 from rfl) i77 dX9_count_77 ?_
      obtain rfl := Option.some.inj h
      exact lb_iret X hW dX9_count_78
    have h := (if_neg c24_0).symm.trans h
    by_cases c24_1 : x1 = 1
    · have h := (if_pos c24_1).symm.trans h
      refine lv_tableIn (tgt := 72) hx hb dX9_count_24 (by rw [c24_1]; decide) (by rw [c24_1]; decide) (off := 48) (by rw [c24_1]; rfl) (by decide) ?_
      refine lv_aload_n hx hb dX9_count_72 rfl (lv_at hl 1 rfl) ?_
      refine rg_X9_9 X hW dX9_count_73 ?_
      refine lv_iload_n hx hb dX9_count_76 rfl (lv_at hl 2 rfl) ?_
      obtain ⟨i77, h⟩ := lb_chk_in h
      refine lb_ild X hW (show lb_ar 54 = 60 + 1 from rfl) i77 dX9_count_77 ?_
      obtain rfl := Option.some.inj h
      exact lb_iret X hW dX9_count_78
    have h := (if_neg c24_1).symm.trans h
    by_cases c24_2 : x1 = 2
    · have h := (if_pos c24_2).symm.trans h
      refine lv_tableIn (tgt := 72) hx hb dX9_count_24 (by rw [c24_2]; decide) (by rw [c24_2]; decide) (off := 48) (by rw [c24_2]; rfl) (by decide) ?_
      refine lv_aload_n hx hb dX9_count_72 rfl (lv_at hl 1 rfl) ?_
      refine rg_X9_9 X hW dX9_count_73 ?_
      refine lv_iload_n hx hb dX9_count_76 rfl (lv_at hl 2 rfl) ?_
      obtain ⟨i77, h⟩ := lb_chk_in h
      refine lb_ild X hW (show lb_ar 54 = 60 + 1 from rfl) i77 dX9_count_77 ?_
      obtain rfl := Option.some.inj h
      exact lb_iret X hW dX9_count_78
    have h := (if_neg c24_2).symm.trans h
    by_cases c24_3 : x1 = 3
    · have h := (if_pos c24_3).symm.trans h
      refine lv_tableIn (tgt := 79) hx hb dX9_count_24 (by rw [c24_3]; decide) (by rw [c24_3]; decide) (off := 55) (by rw [c24_3]; rfl) (by decide) ?_
      refine lv_aload_n hx hb dX9_count_79 rfl (lv_at hl 1 rfl) ?_
      refine rg_X9_9 X hW dX9_count_80 ?_
      obtain ⟨q83, e83, h⟩ := lb_bind h
      refine rc_X9_129 X hW (show lb_ar 54 = 60 + 1 from rfl) e83 ⟨⟨rfl, rfl⟩, Nat.le_of_ble_eq_true rfl, Nat.le_of_ble_eq_true rfl⟩ hl.1 (Nat.le_of_ble_eq_true rfl) dX9_count_83 ⟨Nat.zero_le _, Nat.zero_le _⟩ (fun H locs hW => ?_)
      obtain rfl := Option.some.inj h
      exact lb_iret X hW dX9_count_86
    have h := (if_neg c24_3).symm.trans h
    by_cases c24_4 : x1 = 4
    · have h := (if_pos c24_4).symm.trans h
      refine lv_tableIn (tgt := 87) hx hb dX9_count_24 (by rw [c24_4]; decide) (by rw [c24_4]; decide) (off := 63) (by rw [c24_4]; rfl) (by decide) ?_
      refine lv_iconst (v := 0) hx hb dX9_count_87 rfl ?_
      refine lv_istore_n (lv' := [(3, .int (0 : Int32)), (2, .int (0 : Int32)), (0, .ref (lb_ad G 53)), (1, .int x1)]) hx hb dX9_count_88 rfl hl (by decide) rfl (fun ls hl => ?_)
      exact w_X9_count_89 X lb_N (0 : Int32) (0 : Int32) _ _ _ h hW (lv_sub hl [2, 1, 0] rfl)
    have h := (if_neg c24_4).symm.trans h
    by_cases c24_5 : x1 = 5
    · have h := (if_pos c24_5).symm.trans h
      refine lv_tableIn (tgt := 120) hx hb dX9_count_24 (by rw [c24_5]; decide) (by rw [c24_5]; decide) (off := 96) (by rw [c24_5]; rfl) (by decide) ?_
      refine lv_aload_n hx hb dX9_count_120 rfl (lv_at hl 1 rfl) ?_
      obtain ⟨q121, e121, h⟩ := lb_bind h
      refine rc_X9_143 X hW e121 ⟨⟨rfl, rfl⟩, Nat.le_of_ble_eq_true rfl, Nat.le_of_ble_eq_true rfl⟩ hl.1 (Nat.le_of_ble_eq_true rfl) dX9_count_121 ⟨Nat.zero_le _, Nat.zero_le _⟩ (fun H locs hW => ?_)
      obtain ⟨q124, e124, h⟩ := lb_bind h
      refine rc_X9_164 X hW e124 ⟨⟨rfl, rfl⟩, Nat.le_of_ble_eq_true rfl, Nat.le_of_ble_eq_true rfl⟩ hl.1 (Nat.le_of_ble_eq_true rfl) dX9_count_124 ⟨Nat.zero_le _, Nat.zero_le _⟩ (fun H locs hW => ?_)
      obtain rfl := Option.some.inj h
      exact lb_iret X hW dX9_count_127
    have h := (if_neg c24_5).symm.trans h
    by_cases c24_6 : x1 = 6
    · have h := (if_pos c24_6).symm.trans h
      refine lv_tableIn (tgt := 128) hx hb dX9_count_24 (by rw [c24_6]; decide) (by rw [c24_6]; decide) (off := 104) (by rw [c24_6]; rfl) (by decide) ?_
      refine lv_aload_n hx hb dX9_count_128 rfl (lv_at hl 1 rfl) ?_
      refine rg_X9_192 X hW dX9_count_129 ?_
      obtain rfl := Option.some.inj h
      exact lb_iret X hW dX9_count_132
    have h := (if_neg c24_6).symm.trans h
    by_cases c24_7 : x1 = 7
    · have h := (if_pos c24_7).symm.trans h
      refine lv_tableIn (tgt := 133) hx hb dX9_count_24 (by rw [c24_7]; decide) (by rw [c24_7]; decide) (off := 109) (by rw [c24_7]; rfl) (by decide) ?_
      refine lv_aload_n hx hb dX9_count_133 rfl (lv_at hl 1 rfl) ?_
      refine rg_X9_73 X hW dX9_count_134 ?_
      obtain rfl := Option.some.inj h
      exact lb_iret X hW dX9_count_137
    have h := (if_neg c24_7).symm.trans h
    refine lb_tswD (tgt := 138) (lb_kn_cons c24_0 (lb_kn_cons c24_1 (lb_kn_cons c24_2 (lb_kn_cons c24_3 (lb_kn_cons c24_4 (lb_kn_cons c24_5 (lb_kn_cons c24_6 (lb_kn_cons c24_7 lb_kn_nil)))))))) hx hb dX9_count_24 (by decide) (by decide) (by decide) (by decide) (by decide) ?_
    refine lv_bipush (v := -9) hx hb dX9_count_138 rfl ?_
    obtain rfl := Option.some.inj h
    exact lb_iret X hW dX9_count_140
  · have h := (if_neg c8).symm.trans h
    refine lv_aload_n hx hb dX9_count_11 rfl (lv_at hl 0 rfl) ?_
    refine rg_X9_28 X hW dX9_count_12 ?_
    refine lv_iload_n hx hb dX9_count_15 rfl (lv_at hl 1 rfl) ?_
    refine lv_bipush (v := 10) hx hb dX9_count_16 rfl ?_
    refine lv_isub hx hb dX9_count_18 ?_
    obtain ⟨i19, h⟩ := lb_chk_in h
    refine lb_ild X hW (show lb_ar 60 = 6 + 1 from rfl) i19 dX9_count_19 ?_
    obtain rfl := Option.some.inj h
    exact lb_iret X hW dX9_count_20
