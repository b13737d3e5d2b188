theorem rc_X7_115 {p : Program} {l : Launch} {e : Env} {R : Room} {s : State} {m : MethodId} {args : Array Value} {below : List Frame} {meth : Method} {c : Code} {H : Heap} {locs : List Loc} {cells slots : Nat} {Q : State → Prop} {cc : ByteArray} {pc nL : Nat} {ls : Array Slot} {rest : List Value} {G : lb_G} {σ : lb_Mem} {ret : Option FieldType} (X : lb_C G p s m args meth c cc nL RX7 ret) (hW : lb_W G s σ H locs) (x0 : Int32) (hR : lb_room rmX7_isKind R 1) (hls : ls.size = nL) (hrest : (rest.map fun v => v.category).sum ≤ 8) (d : decode cc pc = .ok (.invokestatic 115, 3)) (hcap : cells ≤ R.cells ∧ slots ≤ R.slots) (kk : ∀ (H1 : Heap) (locs1 : List Loc), lb_W G s σ H1 locs1 → W p l e R s m args below meth c H1 locs1 cells slots Q (F0 m (pc + 3) ls (.int (f_X7_isKind x0) :: rest))) : W p l e R s m args below meth c H locs cells slots Q (F0 m pc ls (.int x0 :: rest)) :=
  lb_goI hW (lb_runS (As := [.int x0]) X hW (m_X7_isKind l G σ x0 _ rfl) (n := 1) ⟨qw_364, qw_44, qw_366, by decide +kernel⟩ hR qw_365 rfl hls hrest d hcap) kk
theorem rc_X7_118 {p : Program} {l : Launch} {e : Env} {R : Room} {s : State} {m : MethodId} {args : Array Value} {below : List Frame} {meth : Method} {c : Code} {H : Heap} {locs : List Loc} {cells slots : Nat} {Q : State → Prop} {cc : ByteArray} {pc nL : Nat} {ls : Array Slot} {rest : List Value} {G : lb_G} {σ : lb_Mem} {ret : Option FieldType} (X : lb_C G p s m args meth c cc nL RX7 ret) (hW : lb_W G s σ H locs) (x0 : Int32) (hR : lb_room rmX7_isDigit R 1) (hls : ls.size = nL) (hrest : (rest.map fun v => v.category).sum ≤ 8) (d : decode cc pc = .ok (.invokestatic 118, 3)) (hcap : cells ≤ R.cells ∧ slots ≤ R.slots) (kk : ∀ (H1 : Heap) (locs1 : List Loc), lb_W G s σ H1 locs1 → W p l e R s m args below meth c H1 locs1 cells slots Q (F0 m (pc + 3) ls (.int (f_X7_isDigit x0) :: rest))) : W p l e R s m args below meth c H locs cells slots Q (F0 m pc ls (.int x0 :: rest)) :=
  lb_goI hW (lb_runS (As := [.int x0]) X hW (m_X7_isDigit l G σ x0 _ rfl) (n := 1) ⟨qw_367, qw_44, qw_341, by decide +kernel⟩ hR qw_340 rfl hls hrest d hcap) kk
theorem rc_X7_121 {p : Program} {l : Launch} {e : Env} {R : Room} {s : State} {m : MethodId} {args : Array Value} {below : List Frame} {meth : Method} {c : Code} {H : Heap} {locs : List Loc} {cells slots : Nat} {Q : State → Prop} {cc : ByteArray} {pc nL : Nat} {ls : Array Slot} {rest : List Value} {G : lb_G} {σ : lb_Mem} {ret : Option FieldType} (X : lb_C G p s m args meth c cc nL RX7 ret) (hW : lb_W G s σ H locs) (x0 : Int32) (hR : lb_room rmX7_isLabel R 1) (hls : ls.size = nL) (hrest : (rest.map fun v => v.category).sum ≤ 8) (d : decode cc pc = .ok (.invokestatic 121, 3)) (hcap : cells ≤ R.cells ∧ slots ≤ R.slots) (kk : ∀ (H1 : Heap) (locs1 : List Loc), lb_W G s σ H1 locs1 → W p l e R s m args below meth c H1 locs1 cells slots Q (F0 m (pc + 3) ls (.int (f_X7_isLabel x0) :: rest))) : W p l e R s m args below meth c H locs cells slots Q (F0 m pc ls (.int x0 :: rest)) :=
  lb_goI hW (lb_runS (As := [.int x0]) X hW (m_X7_isLabel l G σ x0 _ rfl) (n := 1) ⟨qw_368, qw_44, qw_370, by decide +kernel⟩ hR qw_369 rfl hls hrest d hcap) kk
theorem rc_X7_124 {p : Program} {l : Launch} {e : Env} {R : Room} {s : State} {m : MethodId} {args : Array Value} {below : List Frame} {meth : Method} {c : Code} {H : Heap} {locs : List Loc} {cells slots : Nat} {Q : State → Prop} {cc : ByteArray} {pc nL : Nat} {ls : Array Slot} {rest : List Value} {G : lb_G} {σ : lb_Mem} {ret : Option FieldType} (X : lb_C G p s m args meth c cc nL RX7 ret) (hW : lb_W G s σ H locs) {b0 : Nat} (hb0 : lb_V b0) (x1 : Int32) (hR : lb_room rmX7_hasPerson R 2) (hls : ls.size = nL) (hrest : (rest.map fun v => v.category).sum ≤ 8) (d : decode cc pc = .ok (.invokevirtual 124, 3)) (hcap : cells ≤ R.cells ∧ slots ≤ R.slots) (kk : ∀ (H1 : Heap) (locs1 : List Loc), lb_W G s σ H1 locs1 → W p l e R s m args below meth c H1 locs1 cells slots Q (F0 m (pc + 3) ls (.int (f_X7_hasPerson σ b0 x1) :: rest))) : W p l e R s m args below meth c H locs cells slots Q (F0 m pc ls (.int x1 :: .ref (lb_ad G b0) :: rest)) :=
  lb_goI hW (lb_runV (As := [.int x1]) X hW (m_X7_hasPerson l G σ hb0 x1 _ rfl) (n := 1) ⟨qw_371, qw_44, qw_374, by decide +kernel⟩ hR qw_372 qw_373 (lb_isV hb0) rfl hls hrest d hcap) kk
abbrev rmX7_addPot : Room := { frames := 2, cells := 0, slots := 0, locals := 40 }
def f_X7_addPot_51 (b0 : Nat) (x1 : Int32) (x2 : Int32) (x3 : Int32) (x4 : Int32) (x5 : Int32) (x6 : Int32) (σ : lb_Mem) (y0 : Int32) : Option (Int32 × lb_Mem) := if (8 : Int32) ≤ (σ b0 9) then some ((0 : Int32), σ) else if y0 = 0 then some ((0 : Int32), σ) else lb_chk (lb_ix (σ b0 9) 8) (lb_let (lb_sto σ (b0 + 8) (σ b0 9).toNatClampNeg x1) (fun s78 : lb_Mem => lb_chk (lb_ix (s78 b0 9) 8) (lb_let (lb_sto s78 (b0 + 9) (s78 b0 9).toNatClampNeg x2) (fun s88 : lb_Mem => lb_chk (lb_ix (s88 b0 9) 8) (lb_let (lb_sto s88 (b0 + 10) (s88 b0 9).toNatClampNeg x3) (fun s98 : lb_Mem => lb_chk (lb_ix (s98 b0 9) 8) (lb_let (lb_sto s98 (b0 + 11) (s98 b0 9).toNatClampNeg x4) (fun s109 : lb_Mem => lb_chk (lb_ix (s109 b0 9) 8) (lb_let (lb_sto s109 (b0 + 12) (s109 b0 9).toNatClampNeg x5) (fun s120 : lb_Mem => lb_chk (lb_ix (s120 b0 9) 8) (lb_let (lb_sto s120 (b0 + 13) (s120 b0 9).toNatClampNeg x6) (fun s131 : lb_Mem => lb_let (lb_sto s131 b0 9 ((s131 b0 9) + (1 : Int32))) (fun s139 : lb_Mem => some ((1 : Int32), s139))))))))))))))
set_option maxRecDepth 20000 in
set_option maxHeartbeats 4000000 in
theorem w_X7_addPot_51 {p : Program} {l : Launch} {e : Env} {s : State} {m : MethodId} {args : Array Value} {below : List Frame} {meth : Method} {c : Code} {G : lb_G} {b0 : Nat} {qr : (Int32 × lb_Mem)} (X : lb_C G p s m args meth c cX7_addPot 8 RX7 (some .boolean)) (hb0 : lb_V b0) : ∀ (x1 : Int32) (x2 : Int32) (x3 : Int32) (x4 : Int32) (x5 : Int32) (x6 : Int32) (σ : lb_Mem) (y0 : Int32) (H : Heap) (locs : List Loc) (ls : Array Slot), f_X7_addPot_51 b0 x1 x2 x3 x4 x5 x6 σ y0 = some qr → lb_W G s σ H locs → lv_has ls 8 [(0, .ref (lb_ad G b0)), (1, .int x1), (2, .int x2), (3, .int x3), (4, .int x4), (5, .int x5), (6, .int x6)] → W p l e rmX7_addPot s m args below meth c H locs 0 0 (MQ below (lb_QI G qr.1 qr.2) args s 0 0 (lb_A G)) (F0 m 51 ls [.int y0]) := by
  have hx := X.1
  have hb := X.2.1
  intro x1 x2 x3 x4 x5 x6 σ y0 H locs ls h hW hl
  have h : (if (8 : Int32) ≤ (σ b0 9) then some ((0 : Int32), σ) else if y0 = 0 then some ((0 : Int32), σ) else lb_chk (lb_ix (σ b0 9) 8) (lb_let (lb_sto σ (b0 + 8) (σ b0 9).toNatClampNeg x1) (fun s78 : lb_Mem => lb_chk (lb_ix (s78 b0 9) 8) (lb_let (lb_sto s78 (b0 + 9) (s78 b0 9).toNatClampNeg x2) (fun s88 : lb_Mem => lb_chk (lb_ix (s88 b0 9) 8) (lb_let (lb_sto s88 (b0 + 10) (s88 b0 9).toNatClampNeg x3) (fun s98 : lb_Mem => lb_chk (lb_ix (s98 b0 9) 8) (lb_let (lb_sto s98 (b0 + 11) (s98 b0 9).toNatClampNeg x4) (fun s109 : lb_Mem => lb_chk (lb_ix (s109 b0 9) 8) (lb_let (lb_sto s109 (b0 + 12) (s109 b0 9).toNatClampNeg x5) (fun s120 : lb_Mem => lb_chk (lb_ix (s120 b0 9) 8) (lb_let (lb_sto s120 (b0 + 13) (s120 b0 9).toNatClampNeg x6) (fun s131 : lb_Mem => lb_let (lb_sto s131 b0 9 ((s131 b0 9) + (1 : Int32))) (fun s139 : lb_Mem => some ((1 : Int32), s139))))))))))))))) = some qr := h
  refine lv_istore (lv' := [(7, .int y0), (0, .ref (lb_ad G b0)), (1, .int x1), (2, .int x2), (3, .int x3), (4, .int x4), (5, .int x5), (6, .int x6)]) hx hb dX7_addPot_51 hl (by decide) rfl (fun ls hl => ?_)
  refine lv_aload_n hx hb dX7_addPot_53 rfl (lv_at hl 1 rfl) ?_
  refine rg_X7_58 X hW hb0 dX7_addPot_54 ?_
  refine lv_bipush (v := 8) hx hb dX7_addPot_57 rfl ?_
  refine lv_icmp_ge (tgt := 67) hx hb dX7_addPot_59 (by decide) (fun c59 => ?_) (fun c59 => ?_)
  · have h := (if_pos c59).symm.trans h
    refine lv_iconst (v := 0) hx hb dX7_addPot_67 rfl ?_
    obtain rfl := Option.some.inj h
    exact lb_zret X hW (Or.inl rfl) dX7_addPot_68
  · have h := (if_neg c59).symm.trans h
    refine lv_iload hx hb dX7_addPot_62 (lv_at hl 0 rfl) ?_
    refine lv_if_ne (tgt := 69) hx hb dX7_addPot_64 (by decide) (fun c64 => ?_) (fun c64 => ?_)
    · have h := (if_neg c64).symm.trans h
      refine lv_aload_n hx hb dX7_addPot_69 rfl (lv_at hl 1 rfl) ?_
      refine rg_X7_33 (k := (b0 + 8)) X hW hb0 rfl dX7_addPot_70 ?_
      refine lv_aload_n hx hb dX7_addPot_73 rfl (lv_at hl 1 rfl) ?_
      refine rg_X7_58 X hW hb0 dX7_addPot_74 ?_
      refine lv_iload_n hx hb dX7_addPot_77 rfl (lv_at hl 2 rfl) ?_
      obtain ⟨i78, h⟩ := lb_chk_in h
      refine lb_ist X hW (lb_Var8 hb0) i78 dX7_addPot_78 (fun H locs hW => ?_)
      obtain ⟨s78, e78⟩ : ∃ z, z = lb_sto σ (b0 + 8) (σ b0 9).toNatClampNeg x1 := ⟨_, rfl⟩
      rw [← e78] at hW
      have h := lb_letI e78 h
      refine lv_aload_n hx hb dX7_addPot_79 rfl (lv_at hl 1 rfl) ?_
      refine rg_X7_37 (k := (b0 + 9)) X hW hb0 rfl dX7_addPot_80 ?_
      refine lv_aload_n hx hb dX7_addPot_83 rfl (lv_at hl 1 rfl) ?_
      refine rg_X7_58 X hW hb0 dX7_addPot_84 ?_
      refine lv_iload_n hx hb dX7_addPot_87 rfl (lv_at hl 3 rfl) ?_
      obtain ⟨i88, h⟩ := lb_chk_in h
      refine lb_ist X hW (lb_Var9 hb0) i88 dX7_addPot_88 (fun H locs hW => ?_)
      obtain ⟨s88, e88⟩ : ∃ z, z = lb_sto s78 (b0 + 9) (s78 b0 9).toNatClampNeg x2 := ⟨_, rfl⟩
      rw [← e88] at hW
      have h := lb_letI e88 h
      refine lv_aload_n hx hb dX7_addPot_89 rfl (lv_at hl 1 rfl) ?_
      refine rg_X7_40 (k := (b0 + 10)) X hW hb0 rfl dX7_addPot_90 ?_
      refine lv_aload_n hx hb dX7_addPot_93 rfl (lv_at hl 1 rfl) ?_
      refine rg_X7_58 X hW hb0 dX7_addPot_94 ?_
      refine lv_iload_n hx hb dX7_addPot_97 rfl (lv_at hl 4 rfl) ?_
      obtain ⟨i98, h⟩ := lb_chk_in h
      refine lb_ist X hW (lb_Var10 hb0) i98 dX7_addPot_98 (fun H locs hW => ?_)
      obtain ⟨s98, e98⟩ : ∃ z, z = lb_sto s88 (b0 + 10) (s88 b0 9).toNatClampNeg x3 := ⟨_, rfl⟩
      rw [← e98] at hW
      have h := lb_letI e98 h
      refine lv_aload_n hx hb dX7_addPot_99 rfl (lv_at hl 1 rfl) ?_
      refine rg_X7_43 (k := (b0 + 11)) X hW hb0 rfl dX7_addPot_100 ?_
      refine lv_aload_n hx hb dX7_addPot_103 rfl (lv_at hl 1 rfl) ?_
      refine rg_X7_58 X hW hb0 dX7_addPot_104 ?_
      refine lv_iload hx hb dX7_addPot_107 (lv_at hl 5 rfl) ?_
      obtain ⟨i109, h⟩ := lb_chk_in h
      refine lb_ist X hW (lb_Var11 hb0) i109 dX7_addPot_109 (fun H locs hW => ?_)
      obtain ⟨s109, e109⟩ : ∃ z, z = lb_sto s98 (b0 + 11) (s98 b0 9).toNatClampNeg x4 := ⟨_, rfl⟩
      rw [← e109] at hW
      have h := lb_letI e109 h
      refine lv_aload_n hx hb dX7_addPot_110 rfl (lv_at hl 1 rfl) ?_
      refine rg_X7_46 (k := (b0 + 12)) X hW hb0 rfl dX7_addPot_111 ?_
      refine lv_aload_n hx hb dX7_addPot_114 rfl (lv_at hl 1 rfl) ?_
      refine rg_X7_58 X hW hb0 dX7_addPot_115 ?_
      refine lv_iload hx hb dX7_addPot_118 (lv_at hl 6 rfl) ?_
      obtain ⟨i120, h⟩ := lb_chk_in h
      refine lb_ist X hW (lb_Var12 hb0) i120 dX7_addPot_120 (fun H locs hW => ?_)
      obtain ⟨s120, e120⟩ : ∃ z, z = lb_sto s109 (b0 + 12) (s109 b0 9).toNatClampNeg x5 := ⟨_, rfl⟩
      rw [← e120] at hW
      have h := lb_letI e120 h
      refine lv_aload_n hx hb dX7_addPot_121 rfl (lv_at hl 1 rfl) ?_
      refine rg_X7_49 (k := (b0 + 13)) X hW hb0 rfl dX7_addPot_122 ?_
      refine lv_aload_n hx hb dX7_addPot_125 rfl (lv_at hl 1 rfl) ?_
      refine rg_X7_58 X hW hb0 dX7_addPot_126 ?_
      refine lv_iload hx hb dX7_addPot_129 (lv_at hl 7 rfl) ?_
      obtain ⟨i131, h⟩ := lb_chk_in h
      refine lb_ist X hW (lb_Var13 hb0) i131 dX7_addPot_131 (fun H locs hW => ?_)
      obtain ⟨s131, e131⟩ : ∃ z, z = lb_sto s120 (b0 + 13) (s120 b0 9).toNatClampNeg x6 := ⟨_, rfl⟩
      rw [← e131] at hW
      have h := lb_letI e131 h
      refine lv_aload_n hx hb dX7_addPot_132 rfl (lv_at hl 1 rfl) ?_
      refine lv_dup hx hb dX7_addPot_133 rfl ?_
      refine rg_X7_58 X hW hb0 dX7_addPot_134 ?_
      refine lv_iconst (v := 1) hx hb dX7_addPot_137 rfl ?_
      refine lv_iadd hx hb dX7_addPot_138 ?_
      refine rp_X7_58 X hW hb0 dX7_addPot_139 (fun H locs hW => ?_)
      obtain ⟨s139, e139⟩ : ∃ z, z = lb_sto s131 b0 9 ((s131 b0 9) + (1 : Int32)) := ⟨_, rfl⟩
      rw [← e139] at hW
      have h := lb_letI e139 h
      refine lv_iconst (v := 1) hx hb dX7_addPot_142 rfl ?_
      obtain rfl := Option.some.inj h
      exact lb_zret X hW (Or.inr rfl) dX7_addPot_143
    · have h := (if_pos c64).symm.trans h
      refine lv_iconst (v := 0) hx hb dX7_addPot_67 rfl ?_
      obtain rfl := Option.some.inj h
      exact lb_zret X hW (Or.inl rfl) dX7_addPot_68
def f_X7_addPot_50 (b0 : Nat) (x1 : Int32) (x2 : Int32) (x3 : Int32) (x4 : Int32) (x5 : Int32) (x6 : Int32) (σ : lb_Mem) : Option (Int32 × lb_Mem) := f_X7_addPot_51 b0 x1 x2 x3 x4 x5 x6 σ (0 : Int32)
set_option maxRecDepth 20000 in
set_option maxHeartbeats 4000000 in
theorem w_X7_addPot_50 {p : Program} {l : Launch} {e : Env} {s : State} {m : MethodId} {args : Array Value} {below : List Frame} {meth : Method} {c : Code} {G : lb_G} {b0 : Nat} {qr : (Int32 × lb_Mem)} (X : lb_C G p s m args meth c cX7_addPot 8 RX7 (some .boolean)) (hb0 : lb_V b0) : ∀ (x1 : Int32) (x2 : Int32) (x3 : Int32) (x4 : Int32) (x5 : Int32) (x6 : Int32) (σ : lb_Mem) (H : Heap) (locs : List Loc) (ls : Array Slot), f_X7_addPot_50 b0 x1 x2 x3 x4 x5 x6 σ = some qr → lb_W G s σ H locs → lv_has ls 8 [(0, .ref (lb_ad G b0)), (1, .int x1), (2, .int x2), (3, .int x3), (4, .int x4), (5, .int x5), (6, .int x6)] → W p l e rmX7_addPot s m args below meth c H locs 0 0 (MQ below (lb_QI G qr.1 qr.2) args s 0 0 (lb_A G)) (F0 m 50 ls []) := by
  have hx := X.1
  have hb := X.2.1
  intro x1 x2 x3 x4 x5 x6 σ H locs ls h hW hl
  have h : (f_X7_addPot_51 b0 x1 x2 x3 x4 x5 x6 σ (0 : Int32)) = some qr := h
  refine lv_iconst (v := 0) hx hb dX7_addPot_50 rfl ?_
  exact w_X7_addPot_51 X hb0 x1 x2 x3 x4 x5 x6 σ (0 : Int32) _ _ _ h hW (lv_sub hl [0, 1, 2, 3, 4, 5, 6] rfl)
def f_X7_addPot (b0 : Nat) (x1 : Int32) (x2 : Int32) (x3 : Int32) (x4 : Int32) (x5 : Int32) (x6 : Int32) (σ : lb_Mem) : Option (Int32 × lb_Mem) := if (f_X7_isKind x1) = 0 then f_X7_addPot_50 b0 x1 x2 x3 x4 x5 x6 σ else if (f_X7_isDigit x2) = 0 then f_X7_addPot_50 b0 x1 x2 x3 x4 x5 x6 σ else if (f_X7_isSort x3) = 0 then f_X7_addPot_50 b0 x1 x2 x3 x4 x5 x6 σ else if (f_X7_isLabel x4) = 0 then f_X7_addPot_50 b0 x1 x2 x3 x4 x5 x6 σ else if (f_X7_isDigit x5) = 0 then f_X7_addPot_50 b0 x1 x2 x3 x4 x5 x6 σ else if (f_X7_hasPerson σ b0 x6) = 0 then f_X7_addPot_50 b0 x1 x2 x3 x4 x5 x6 σ else f_X7_addPot_51 b0 x1 x2 x3 x4 x5 x6 σ (1 : Int32)
set_option maxRecDepth 20000 in
set_option maxHeartbeats 4000000 in
theorem m_X7_addPot (l : Launch) (G : lb_G) (σ : lb_Mem) {b0 : Nat} (hb0 : lb_V b0) (x1 : Int32) (x2 : Int32) (x3 : Int32) (x4 : Int32) (x5 : Int32) (x6 : Int32) (qr : (Int32 × lb_Mem)) (h : f_X7_addPot b0 x1 x2 x3 x4 x5 x6 σ = some qr) : lb_M l yX7_addPot cX7_addPot 8 (some .boolean) rmX7_addPot [.ref (lb_ad G b0), .int x1, .int x2, .int x3, .int x4, .int x5, .int x6] G σ (lb_QI G qr.1 qr.2) := by
  refine lb_start RX7 (by decide +kernel) rfl (Nat.le_of_ble_eq_true rfl) (fun p e s m below meth c X hW ls hl => ?_)
  have hx := X.1
  have hb := X.2.1
  have hl : lv_has ls 8 [(0, .ref (lb_ad G b0)), (1, .int x1), (2, .int x2), (3, .int x3), (4, .int x4), (5, .int x5), (6, .int x6)] := hl
  have h : (if (f_X7_isKind x1) = 0 then f_X7_addPot_50 b0 x1 x2 x3 x4 x5 x6 σ else if (f_X7_isDigit x2) = 0 then f_X7_addPot_50 b0 x1 x2 x3 x4 x5 x6 σ else if (f_X7_isSort x3) = 0 then f_X7_addPot_50 b0 x1 x2 x3 x4 x5 x6 σ else if (f_X7_isLabel x4) = 0 then f_X7_addPot_50 b0 x1 x2 x3 x4 x5 x6 σ else if (f_X7_isDigit x5) = 0 then f_X7_addPot_50 b0 x1 x2 x3 x4 x5 x6 σ else if (f_X7_hasPerson σ b0 x6) = 0 then f_X7_addPot_50 b0 x1 x2 x3 x4 x5 x6 σ else f_X7_addPot_51 b0 x1 x2 x3 x4 x5 x6 σ (1 : Int32)) = some qr := h
  skip
  refine lv_iload_n hx hb dX7_addPot_0 rfl (lv_at hl 1 rfl) ?_
  refine rc_X7_115 X hW x1 ⟨⟨rfl, rfl⟩, Nat.le_of_ble_eq_true rfl, Nat.le_of_ble_eq_true rfl⟩ hl.1 (Nat.le_of_ble_eq_true rfl) dX7_addPot_1 ⟨Nat.zero_le _, Nat.zero_le _⟩ (fun H locs hW => ?_)
  refine lv_if_eq (tgt := 50) hx hb dX7_addPot_4 (by decide) (fun c4 => ?_) (fun c4 => ?_)
  · have h := (if_pos c4).symm.trans h
    exact w_X7_addPot_50 X hb0 x1 x2 x3 x4 x5 x6 σ _ _ _ h hW (lv_sub hl [0, 1, 2, 3, 4, 5, 6] rfl)
  · have h := (if_neg c4).symm.trans h
    refine lv_iload_n hx hb dX7_addPot_7 rfl (lv_at hl 2 rfl) ?_
    refine rc_X7_118 X hW x2 ⟨⟨rfl, rfl⟩, Nat.le_of_ble_eq_true rfl, Nat.le_of_ble_eq_true rfl⟩ hl.1 (Nat.le_of_ble_eq_true rfl) dX7_addPot_8 ⟨Nat.zero_le _, Nat.zero_le _⟩ (fun H locs hW => ?_)
    refine lv_if_eq (tgt := 50) hx hb dX7_addPot_11 (by decide) (fun c11 => ?_) (fun c11 => ?_)
    · have h := (if_pos c11).symm.trans h
      exact w_X7_addPot_50 X hb0 x1 x2 x3 x4 x5 x6 σ _ _ _ h hW (lv_sub hl [0, 1, 2, 3, 4, 5, 6] rfl)
    · have h := (if_neg c11).symm.trans h
      refine lv_iload_n hx hb dX7_addPot_14 rfl (lv_at hl 3 rfl) ?_
      refine rc_X7_74 X hW x3 ⟨⟨rfl, rfl⟩, Nat.le_of_ble_eq_true rfl, Nat.le_of_ble_eq_true rfl⟩ hl.1 (Nat.le_of_ble_eq_true rfl) dX7_addPot_15 ⟨Nat.zero_le _, Nat.zero_le _⟩ (fun H locs hW => ?_)
      refine lv_if_eq (tgt := 50) hx hb dX7_addPot_18 (by decide) (fun c18 => ?_) (fun c18 => ?_)
      · have h := (if_pos c18).symm.trans h
        exact w_X7_addPot_50 X hb0 x1 x2 x3 x4 x5 x6 σ _ _ _ h hW (lv_sub hl [0, 1, 2, 3, 4, 5, 6] rfl)
      · have h := (if_neg c18).symm.trans h
        refine lv_iload hx hb dX7_addPot_21 (lv_at hl 4 rfl) ?_
        refine rc_X7_121 X hW x4 ⟨⟨rfl, rfl⟩, Nat.le_of_ble_eq_true rfl, Nat.le_of_ble_eq_true rfl⟩ hl.1 (Nat.le_of_ble_eq_true rfl) dX7_addPot_23 ⟨Nat.zero_le _, Nat.zero_le _⟩ (fun H locs hW => ?_)
        refine lv_if_eq (tgt := 50) hx hb dX7_addPot_26 (by decide) (fun c26 => ?_) (fun c26 => ?_)
        · have h := (if_pos c26).symm.trans h
          exact w_X7_addPot_50 X hb0 x1 x2 x3 x4 x5 x6 σ _ _ _ h hW (lv_sub hl [0, 1, 2, 3, 4, 5, 6] rfl)
        · have h := (if_neg c26).symm.trans h
          refine lv_iload hx hb dX7_addPot_29 (lv_at hl 5 rfl) ?_
          refine rc_X7_118 X hW x5 ⟨⟨rfl, rfl⟩, Nat.le_of_ble_eq_true rfl, Nat.le_of_ble_eq_true rfl⟩ hl.1 (Nat.le_of_ble_eq_true rfl) dX7_addPot_31 ⟨Nat.zero_le _, Nat.zero_le _⟩ (fun H locs hW => ?_)
          refine lv_if_eq (tgt := 50) hx hb dX7_addPot_34 (by decide) (fun c34 => ?_) (fun c34 => ?_)
          · have h := (if_pos c34).symm.trans h
            exact w_X7_addPot_50 X hb0 x1 x2 x3 x4 x5 x6 σ _ _ _ h hW (lv_sub hl [0, 1, 2, 3, 4, 5, 6] rfl)
          · have h := (if_neg c34).symm.trans h
            refine lv_aload_n hx hb dX7_addPot_37 rfl (lv_at hl 0 rfl) ?_
            refine lv_iload hx hb dX7_addPot_38 (lv_at hl 6 rfl) ?_
            refine rc_X7_124 X hW hb0 x6 ⟨⟨rfl, rfl⟩, Nat.le_of_ble_eq_true rfl, Nat.le_of_ble_eq_true rfl⟩ hl.1 (Nat.le_of_ble_eq_true rfl) dX7_addPot_40 ⟨Nat.zero_le _, Nat.zero_le _⟩ (fun H locs hW => ?_)
            refine lv_if_eq (tgt := 50) hx hb dX7_addPot_43 (by decide) (fun c43 => ?_) (fun c43 => ?_)
            · have h := (if_pos c43).symm.trans h
              exact w_X7_addPot_50 X hb0 x1 x2 x3 x4 x5 x6 σ _ _ _ h hW (lv_sub hl [0, 1, 2, 3, 4, 5, 6] rfl)
            · have h := (if_neg c43).symm.trans h
              refine lv_iconst (v := 1) hx hb dX7_addPot_46 rfl ?_
              refine lv_goto (tgt := 51) hx hb dX7_addPot_47 (by decide) ?_
              exact w_X7_addPot_51 X hb0 x1 x2 x3 x4 x5 x6 σ (1 : Int32) _ _ _ h hW (lv_sub hl [0, 1, 2, 3, 4, 5, 6] rfl)
abbrev rmX7_hasPot : Room := { frames := 0, cells := 0, slots := 0, locals := 0 }
def f_X7_hasPot (σ : lb_Mem) (b0 : Nat) (x1 : Int32) : Int32 := if x1 < 0 then (0 : Int32) else if (σ b0 9) ≤ x1 then (0 : Int32) else (1 : Int32)
theorem zb_X7_hasPot (σ : lb_Mem) (b0 : Nat) (x1 : Int32) : f_X7_hasPot σ b0 x1 = 0 ∨ f_X7_hasPot σ b0 x1 = 1 := by
  unfold f_X7_hasPot
  (repeat' split) <;> first | exact Or.inl rfl | exact Or.inr rfl | exact Or.inl rfl
set_option maxRecDepth 20000 in
set_option maxHeartbeats 4000000 in
theorem m_X7_hasPot (l : Launch) (G : lb_G) (σ : lb_Mem) {b0 : Nat} (hb0 : lb_V b0) (x1 : Int32) (qr : Int32) (h : f_X7_hasPot σ b0 x1 = qr) : lb_M l yX7_hasPot cX7_hasPot 2 (some .boolean) rmX7_hasPot [.ref (lb_ad G b0), .int x1] G σ (lb_QI G qr σ) := by
  refine lb_start RX7 (by decide +kernel) rfl (Nat.le_of_ble_eq_true rfl) (fun p e s m below meth c X hW ls hl => ?_)
  have hx := X.1
  have hb := X.2.1
  have hl : lv_has ls 2 [(0, .ref (lb_ad G b0)), (1, .int x1)] := hl
  have h : (if x1 < 0 then (0 : Int32) else if (σ b0 9) ≤ x1 then (0 : Int32) else (1 : Int32)) = qr := h
  skip
  refine lv_iload_n hx hb dX7_hasPot_0 rfl (lv_at hl 1 rfl) ?_
  refine lv_if_lt (tgt := 16) hx hb dX7_hasPot_1 (by decide) (fun c1 => ?_) (fun c1 => ?_)
  · have h := (if_pos c1).symm.trans h
    refine lv_iconst (v := 0) hx hb dX7_hasPot_16 rfl ?_
    subst h
    exact lb_zret X hW (Or.inl rfl) dX7_hasPot_17
  · have h := (if_neg c1).symm.trans h
    refine lv_iload_n hx hb dX7_hasPot_4 rfl (lv_at hl 1 rfl) ?_
    refine lv_aload_n hx hb dX7_hasPot_5 rfl (lv_at hl 0 rfl) ?_
    refine rg_X7_58 X hW hb0 dX7_hasPot_6 ?_
    refine lv_icmp_ge (tgt := 16) hx hb dX7_hasPot_9 (by decide) (fun c9 => ?_) (fun c9 => ?_)
    · have h := (if_pos c9).symm.trans h
      refine lv_iconst (v := 0) hx hb dX7_hasPot_16 rfl ?_
      subst h
      exact lb_zret X hW (Or.inl rfl) dX7_hasPot_17
    · have h := (if_neg c9).symm.trans h
      refine lv_iconst (v := 1) hx hb dX7_hasPot_12 rfl ?_
      refine lv_goto (tgt := 17) hx hb dX7_hasPot_13 (by decide) ?_
      subst h
      exact lb_zret X hW (Or.inr rfl) dX7_hasPot_17
theorem rc_X7_127 {p : Program} {l : Launch} {e : Env} {R : Room} {s : State} {m : MethodId} {args : Array Value} {below : List Frame} {meth : Method} {c : Code} {H : Heap} {locs : List Loc} {cells slots : Nat} {Q : State → Prop} {cc : ByteArray} {pc nL : Nat} {ls : Array Slot} {rest : List Value} {G : lb_G} {σ : lb_Mem} {ret : Option FieldType} (X : lb_C G p s m args meth c cc nL RX7 ret) (hW : lb_W G s σ H locs) {b0 : Nat} (hb0 : lb_V b0) (x1 : Int32) (hR : lb_room rmX7_hasPot R 2) (hls : ls.size = nL) (hrest : (rest.map fun v => v.category).sum ≤ 8) (d : decode cc pc = .ok (.invokevirtual 127, 3)) (hcap : cells ≤ R.cells ∧ slots ≤ R.slots) (kk : ∀ (H1 : Heap) (locs1 : List Loc), lb_W G s σ H1 locs1 → W p l e R s m args below meth c H1 locs1 cells slots Q (F0 m (pc + 3) ls (.int (f_X7_hasPot σ b0 x1) :: rest))) : W p l e R s m args below meth c H locs cells slots Q (F0 m pc ls (.int x1 :: .ref (lb_ad G b0) :: rest)) :=
  lb_goI hW (lb_runV (As := [.int x1]) X hW (m_X7_hasPot l G σ hb0 x1 _ rfl) (n := 1) ⟨qw_379, qw_44, qw_382, by decide +kernel⟩ hR qw_380 qw_381 (lb_isV hb0) rfl hls hrest d hcap) kk
abbrev rmX7_setLabel : Room := { frames := 2, cells := 0, slots := 0, locals := 40 }
def f_X7_setLabel (b0 : Nat) (x1 : Int32) (x2 : Int32) (σ : lb_Mem) : Option (Int32 × lb_Mem) := if (f_X7_hasPot σ b0 x1) = 0 then some ((0 : Int32), σ) else if (f_X7_isLabel x2) = 0 then some ((0 : Int32), σ) else lb_chk (lb_ix x1 8) (lb_let (lb_sto σ (b0 + 11) x1.toNatClampNeg x2) (fun s23 : lb_Mem => some ((1 : Int32), s23)))
set_option maxRecDepth 20000 in
set_option maxHeartbeats 4000000 in
theorem m_X7_setLabel (l : Launch) (G : lb_G) (σ : lb_Mem) {b0 : Nat} (hb0 : lb_V b0) (x1 : Int32) (x2 : Int32) (qr : (Int32 × lb_Mem)) (h : f_X7_setLabel b0 x1 x2 σ = some qr) : lb_M l yX7_setLabel cX7_setLabel 3 (some .boolean) rmX7_setLabel [.ref (lb_ad G b0), .int x1, .int x2] G σ (lb_QI G qr.1 qr.2) := by
  refine lb_start RX7 (by decide +kernel) rfl (Nat.le_of_ble_eq_true rfl) (fun p e s m below meth c X hW ls hl => ?_)
  have hx := X.1
  have hb := X.2.1
  have hl : lv_has ls 3 [(0, .ref (lb_ad G b0)), (1, .int x1), (2, .int x2)] := hl
  have h : (if (f_X7_hasPot σ b0 x1) = 0 then some ((0 : Int32), σ) else if (f_X7_isLabel x2) = 0 then some ((0 : Int32), σ) else lb_chk (lb_ix x1 8) (lb_let (lb_sto σ (b0 + 11) x1.toNatClampNeg x2) (fun s23 : lb_Mem => some ((1 : Int32), s23)))) = some qr := h
  skip
  refine lv_aload_n hx hb dX7_setLabel_0 rfl (lv_at hl 0 rfl) ?_
  refine lv_iload_n hx hb dX7_setLabel_1 rfl (lv_at hl 1 rfl) ?_
  refine rc_X7_127 X hW hb0 x1 ⟨⟨rfl, rfl⟩, Nat.le_of_ble_eq_true rfl, Nat.le_of_ble_eq_true rfl⟩ hl.1 (Nat.le_of_ble_eq_true rfl) dX7_setLabel_2 ⟨Nat.zero_le _, Nat.zero_le _⟩ (fun H locs hW => ?_)
  refine lv_if_eq (tgt := 15) hx hb dX7_setLabel_5 (by decide) (fun c5 => ?_) (fun c5 => ?_)
  · have h := (if_pos c5).symm.trans h
    refine lv_iconst (v := 0) hx hb dX7_setLabel_15 rfl ?_
    obtain rfl := Option.some.inj h
    exact lb_zret X hW (Or.inl rfl) dX7_setLabel_16
  · have h := (if_neg c5).symm.trans h
    refine lv_iload_n hx hb dX7_setLabel_8 rfl (lv_at hl 2 rfl) ?_
    refine rc_X7_121 X hW x2 ⟨⟨rfl, rfl⟩, Nat.le_of_ble_eq_true rfl, Nat.le_of_ble_eq_true rfl⟩ hl.1 (Nat.le_of_ble_eq_true rfl) dX7_setLabel_9 ⟨Nat.zero_le _, Nat.zero_le _⟩ (fun H locs hW => ?_)
    refine lv_if_ne (tgt := 17) hx hb dX7_setLabel_12 (by decide) (fun c12 => ?_) (fun c12 => ?_)
    · have h := (if_neg c12).symm.trans h
      refine lv_aload_n hx hb dX7_setLabel_17 rfl (lv_at hl 0 rfl) ?_
      refine rg_X7_43 (k := (b0 + 11)) X hW hb0 rfl dX7_setLabel_18 ?_
      refine lv_iload_n hx hb dX7_setLabel_21 rfl (lv_at hl 1 rfl) ?_
      refine lv_iload_n hx hb dX7_setLabel_22 rfl (lv_at hl 2 rfl) ?_
      obtain ⟨i23, h⟩ := lb_chk_in h
      refine lb_ist X hW (lb_Var11 hb0) i23 dX7_setLabel_23 (fun H locs hW => ?_)
      obtain ⟨s23, e23⟩ : ∃ z, z = lb_sto σ (b0 + 11) x1.toNatClampNeg x2 := ⟨_, rfl⟩
      rw [← e23] at hW
      have h := lb_letI e23 h
      refine lv_iconst (v := 1) hx hb dX7_setLabel_24 rfl ?_
      obtain rfl := Option.some.inj h
      exact lb_zret X hW (Or.inr rfl) dX7_setLabel_25
    · have h := (if_pos c12).symm.trans h
      refine lv_iconst (v := 0) hx hb dX7_setLabel_15 rfl ?_
      obtain rfl := Option.some.inj h
      exact lb_zret X hW (Or.inl rfl) dX7_setLabel_16
abbrev rmX7_setOwner : Room := { frames := 1, cells := 0, slots := 0, locals := 21 }
def f_X7_setOwner (b0 : Nat) (x1 : Int32) (x2 : Int32) (σ : lb_Mem) : Option (Int32 × lb_Mem) := if (f_X7_hasPot σ b0 x1) = 0 then some ((0 : Int32), σ) else if (f_X7_hasPerson σ b0 x2) = 0 then some ((0 : Int32), σ) else lb_chk (lb_ix x1 8) (lb_let (lb_sto σ (b0 + 13) x1.toNatClampNeg x2) (fun s24 : lb_Mem => some ((1 : Int32), s24)))
set_option maxRecDepth 20000 in
set_option maxHeartbeats 4000000 in
theorem m_X7_setOwner (l : Launch) (G : lb_G) (σ : lb_Mem) {b0 : Nat} (hb0 : lb_V b0) (x1 : Int32) (x2 : Int32) (qr : (Int32 × lb_Mem)) (h : f_X7_setOwner b0 x1 x2 σ = some qr) : lb_M l yX7_setOwner cX7_setOwner 3 (some .boolean) rmX7_setOwner [.ref (lb_ad G b0), .int x1, .int x2] G σ (lb_QI G qr.1 qr.2) := by
  refine lb_start RX7 (by decide +kernel) rfl (Nat.le_of_ble_eq_true rfl) (fun p e s m below meth c X hW ls hl => ?_)
  have hx := X.1
  have hb := X.2.1
  have hl : lv_has ls 3 [(0, .ref (lb_ad G b0)), (1, .int x1), (2, .int x2)] := hl
  have h : (if (f_X7_hasPot σ b0 x1) = 0 then some ((0 : Int32), σ) else if (f_X7_hasPerson σ b0 x2) = 0 then some ((0 : Int32), σ) else lb_chk (lb_ix x1 8) (lb_let (lb_sto σ (b0 + 13) x1.toNatClampNeg x2) (fun s24 : lb_Mem => some ((1 : Int32), s24)))) = some qr := h
  skip
  refine lv_aload_n hx hb dX7_setOwner_0 rfl (lv_at hl 0 rfl) ?_
  refine lv_iload_n hx hb dX7_setOwner_1 rfl (lv_at hl 1 rfl) ?_
  refine rc_X7_127 X hW hb0 x1 ⟨⟨rfl, rfl⟩, Nat.le_of_ble_eq_true rfl, Nat.le_of_ble_eq_true rfl⟩ hl.1 (Nat.le_of_ble_eq_true rfl) dX7_setOwner_2 ⟨Nat.zero_le _, Nat.zero_le _⟩ (fun H locs hW => ?_)
  refine lv_if_eq (tgt := 16) hx hb dX7_setOwner_5 (by decide) (fun c5 => ?_) (fun c5 => ?_)
  · have h := (if_pos c5).symm.trans h
    refine lv_iconst (v := 0) hx hb dX7_setOwner_16 rfl ?_
    obtain rfl := Option.some.inj h
    exact lb_zret X hW (Or.inl rfl) dX7_setOwner_17
  · have h := (if_neg c5).symm.trans h
    refine lv_aload_n hx hb dX7_setOwner_8 rfl (lv_at hl 0 rfl) ?_
    refine lv_iload_n hx hb dX7_setOwner_9 rfl (lv_at hl 2 rfl) ?_
    refine rc_X7_124 X hW hb0 x2 ⟨⟨rfl, rfl⟩, Nat.le_of_ble_eq_true rfl, Nat.le_of_ble_eq_true rfl⟩ hl.1 (Nat.le_of_ble_eq_true rfl) dX7_setOwner_10 ⟨Nat.zero_le _, Nat.zero_le _⟩ (fun H locs hW => ?_)
    refine lv_if_ne (tgt := 18) hx hb dX7_setOwner_13 (by decide) (fun c13 => ?_) (fun c13 => ?_)
    · have h := (if_neg c13).symm.trans h
      refine lv_aload_n hx hb dX7_setOwner_18 rfl (lv_at hl 0 rfl) ?_
      refine rg_X7_49 (k := (b0 + 13)) X hW hb0 rfl dX7_setOwner_19 ?_
      refine lv_iload_n hx hb dX7_setOwner_22 rfl (lv_at hl 1 rfl) ?_
      refine lv_iload_n hx hb dX7_setOwner_23 rfl (lv_at hl 2 rfl) ?_
      obtain ⟨i24, h⟩ := lb_chk_in h
      refine lb_ist X hW (lb_Var13 hb0) i24 dX7_setOwner_24 (fun H locs hW => ?_)
      obtain ⟨s24, e24⟩ : ∃ z, z = lb_sto σ (b0 + 13) x1.toNatClampNeg x2 := ⟨_, rfl⟩
      rw [← e24] at hW
      have h := lb_letI e24 h
      refine lv_iconst (v := 1) hx hb dX7_setOwner_25 rfl ?_
      obtain rfl := Option.some.inj h
      exact lb_zret X hW (Or.inr rfl) dX7_setOwner_26
    · have h := (if_pos c13).symm.trans h
      refine lv_iconst (v := 0) hx hb dX7_setOwner_16 rfl ?_
      obtain rfl := Option.some.inj h
      exact lb_zret X hW (Or.inl rfl) dX7_setOwner_17
abbrev rmX7_setLikes : Room := { frames := 1, cells := 0, slots := 0, locals := 21 }
def f_X7_setLikes (b0 : Nat) (x1 : Int32) (x2 : Int32) (σ : lb_Mem) : Option (Int32 × lb_Mem) := if (f_X7_hasPerson σ b0 x1) = 0 then some ((0 : Int32), σ) else if (f_X7_isSort x2) = 0 then some ((0 : Int32), σ) else lb_chk (lb_ix x1 5) (lb_let (lb_sto σ (b0 + 14) x1.toNatClampNeg x2) (fun s23 : lb_Mem => some ((1 : Int32), s23)))
set_option maxRecDepth 20000 in
set_option maxHeartbeats 4000000 in
theorem m_X7_setLikes (l : Launch) (G : lb_G) (σ : lb_Mem) {b0 : Nat} (hb0 : lb_V b0) (x1 : Int32) (x2 : Int32) (qr : (Int32 × lb_Mem)) (h : f_X7_setLikes b0 x1 x2 σ = some qr) : lb_M l yX7_setLikes cX7_setLikes 3 (some .boolean) rmX7_setLikes [.ref (lb_ad G b0), .int x1, .int x2] G σ (lb_QI G qr.1 qr.2) := by
  refine lb_start RX7 (by decide +kernel) rfl (Nat.le_of_ble_eq_true rfl) (fun p e s m below meth c X hW ls hl => ?_)
  have hx := X.1
  have hb := X.2.1
  have hl : lv_has ls 3 [(0, .ref (lb_ad G b0)), (1, .int x1), (2, .int x2)] := hl
  have h : (if (f_X7_hasPerson σ b0 x1) = 0 then some ((0 : Int32), σ) else if (f_X7_isSort x2) = 0 then some ((0 : Int32), σ) else lb_chk (lb_ix x1 5) (lb_let (lb_sto σ (b0 + 14) x1.toNatClampNeg x2) (fun s23 : lb_Mem => some ((1 : Int32), s23)))) = some qr := h
  skip
  refine lv_aload_n hx hb dX7_setLikes_0 rfl (lv_at hl 0 rfl) ?_
  refine lv_iload_n hx hb dX7_setLikes_1 rfl (lv_at hl 1 rfl) ?_
  refine rc_X7_124 X hW hb0 x1 ⟨⟨rfl, rfl⟩, Nat.le_of_ble_eq_true rfl, Nat.le_of_ble_eq_true rfl⟩ hl.1 (Nat.le_of_ble_eq_true rfl) dX7_setLikes_2 ⟨Nat.zero_le _, Nat.zero_le _⟩ (fun H locs hW => ?_)
  refine lv_if_eq (tgt := 15) hx hb dX7_setLikes_5 (by decide) (fun c5 => ?_) (fun c5 => ?_)
  · have h := (if_pos c5).symm.trans h
    refine lv_iconst (v := 0) hx hb dX7_setLikes_15 rfl ?_
    obtain rfl := Option.some.inj h
    exact lb_zret X hW (Or.inl rfl) dX7_setLikes_16
  · have h := (if_neg c5).symm.trans h
    refine lv_iload_n hx hb dX7_setLikes_8 rfl (lv_at hl 2 rfl) ?_
    refine rc_X7_74 X hW x2 ⟨⟨rfl, rfl⟩, Nat.le_of_ble_eq_true rfl, Nat.le_of_ble_eq_true rfl⟩ hl.1 (Nat.le_of_ble_eq_true rfl) dX7_setLikes_9 ⟨Nat.zero_le _, Nat.zero_le _⟩ (fun H locs hW => ?_)
    refine lv_if_ne (tgt := 17) hx hb dX7_setLikes_12 (by decide) (fun c12 => ?_) (fun c12 => ?_)
    · have h := (if_neg c12).symm.trans h
      refine lv_aload_n hx hb dX7_setLikes_17 rfl (lv_at hl 0 rfl) ?_
      refine rg_X7_52 (k := (b0 + 14)) X hW hb0 rfl dX7_setLikes_18 ?_
      refine lv_iload_n hx hb dX7_setLikes_21 rfl (lv_at hl 1 rfl) ?_
      refine lv_iload_n hx hb dX7_setLikes_22 rfl (lv_at hl 2 rfl) ?_
      obtain ⟨i23, h⟩ := lb_chk_in h
      refine lb_ist X hW (lb_Var14 hb0) i23 dX7_setLikes_23 (fun H locs hW => ?_)
      obtain ⟨s23, e23⟩ : ∃ z, z = lb_sto σ (b0 + 14) x1.toNatClampNeg x2 := ⟨_, rfl⟩
      rw [← e23] at hW
      have h := lb_letI e23 h
      refine lv_iconst (v := 1) hx hb dX7_setLikes_24 rfl ?_
      obtain rfl := Option.some.inj h
      exact lb_zret X hW (Or.inr rfl) dX7_setLikes_25
    · have h := (if_pos c12).symm.trans h
      refine lv_iconst (v := 0) hx hb dX7_setLikes_15 rfl ?_
      obtain rfl := Option.some.inj h
      exact lb_zret X hW (Or.inl rfl) dX7_setLikes_16
abbrev rmX7_setFull : Room := { frames := 1, cells := 0, slots := 0, locals := 21 }
def f_X7_setFull (b0 : Nat) (x1 : Int32) (x2 : Int32) (σ : lb_Mem) : Option (Int32 × lb_Mem) := if (f_X7_hasPot σ b0 x1) = 0 then some ((0 : Int32), σ) else if (f_X7_isDigit x2) = 0 then some ((0 : Int32), σ) else lb_chk (lb_ix x1 8) (lb_let (lb_sto σ (b0 + 12) x1.toNatClampNeg x2) (fun s23 : lb_Mem => some ((1 : Int32), s23)))
set_option maxRecDepth 20000 in
set_option maxHeartbeats 4000000 in
theorem m_X7_setFull (l : Launch) (G : lb_G) (σ : lb_Mem) {b0 : Nat} (hb0 : lb_V b0) (x1 : Int32) (x2 : Int32) (qr : (Int32 × lb_Mem)) (h : f_X7_setFull b0 x1 x2 σ = some qr) : lb_M l yX7_setFull cX7_setFull 3 (some .boolean) rmX7_setFull [.ref (lb_ad G b0), .int x1, .int x2] G σ (lb_QI G qr.1 qr.2) := by
  refine lb_start RX7 (by decide +kernel) rfl (Nat.le_of_ble_eq_true rfl) (fun p e s m below meth c X hW ls hl => ?_)
  have hx := X.1
  have hb := X.2.1
  have hl : lv_has ls 3 [(0, .ref (lb_ad G b0)), (1, .int x1), (2, .int x2)] := hl
  have h : (if (f_X7_hasPot σ b0 x1) = 0 then some ((0 : Int32), σ) else if (f_X7_isDigit x2) = 0 then some ((0 : Int32), σ) else lb_chk (lb_ix x1 8) (lb_let (lb_sto σ (b0 + 12) x1.toNatClampNeg x2) (fun s23 : lb_Mem => some ((1 : Int32), s23)))) = some qr := h
  skip
  refine lv_aload_n hx hb dX7_setFull_0 rfl (lv_at hl 0 rfl) ?_
  refine lv_iload_n hx hb dX7_setFull_1 rfl (lv_at hl 1 rfl) ?_
  refine rc_X7_127 X hW hb0 x1 ⟨⟨rfl, rfl⟩, Nat.le_of_ble_eq_true rfl, Nat.le_of_ble_eq_true rfl⟩ hl.1 (Nat.le_of_ble_eq_true rfl) dX7_setFull_2 ⟨Nat.zero_le _, Nat.zero_le _⟩ (fun H locs hW => ?_)
  refine lv_if_eq (tgt := 15) hx hb dX7_setFull_5 (by decide) (fun c5 => ?_) (fun c5 => ?_)
  · have h := (if_pos c5).symm.trans h
    refine lv_iconst (v := 0) hx hb dX7_setFull_15 rfl ?_
    obtain rfl := Option.some.inj h
    exact lb_zret X hW (Or.inl rfl) dX7_setFull_16
  · have h := (if_neg c5).symm.trans h
    refine lv_iload_n hx hb dX7_setFull_8 rfl (lv_at hl 2 rfl) ?_
    refine rc_X7_118 X hW x2 ⟨⟨rfl, rfl⟩, Nat.le_of_ble_eq_true rfl, Nat.le_of_ble_eq_true rfl⟩ hl.1 (Nat.le_of_ble_eq_true rfl) dX7_setFull_9 ⟨Nat.zero_le _, Nat.zero_le _⟩ (fun H locs hW => ?_)
    refine lv_if_ne (tgt := 17) hx hb dX7_setFull_12 (by decide) (fun c12 => ?_) (fun c12 => ?_)
    · have h := (if_neg c12).symm.trans h
      refine lv_aload_n hx hb dX7_setFull_17 rfl (lv_at hl 0 rfl) ?_
      refine rg_X7_46 (k := (b0 + 12)) X hW hb0 rfl dX7_setFull_18 ?_
      refine lv_iload_n hx hb dX7_setFull_21 rfl (lv_at hl 1 rfl) ?_
      refine lv_iload_n hx hb dX7_setFull_22 rfl (lv_at hl 2 rfl) ?_
      obtain ⟨i23, h⟩ := lb_chk_in h
      refine lb_ist X hW (lb_Var12 hb0) i23 dX7_setFull_23 (fun H locs hW => ?_)
      obtain ⟨s23, e23⟩ : ∃ z, z = lb_sto σ (b0 + 12) x1.toNatClampNeg x2 := ⟨_, rfl⟩
      rw [← e23] at hW
      have h := lb_letI e23 h
      refine lv_iconst (v := 1) hx hb dX7_setFull_24 rfl ?_
      obtain rfl := Option.some.inj h
      exact lb_zret X hW (Or.inr rfl) dX7_setFull_25
    · have h := (if_pos c12).symm.trans h
      refine lv_iconst (v := 0) hx hb dX7_setFull_15 rfl ?_
      obtain rfl := Option.some.inj h
      exact lb_zret X hW (Or.inl rfl) dX7_setFull_16
abbrev rmX7_canGoOn : Room := { frames := 0, cells := 0, slots := 0, locals := 0 }
def f_X7_canGoOn (σ : lb_Mem) (b0 : Nat) (x1 : Int32) : Int32 := if x1 < (1 : Int32) then (0 : Int32) else if (60 : Int32) < x1 then (0 : Int32) else if ((999 : Int32) - x1) < (σ b0 11) then (0 : Int32) else (1 : Int32)
theorem zb_X7_canGoOn (σ : lb_Mem) (b0 : Nat) (x1 : Int32) : f_X7_canGoOn σ b0 x1 = 0 ∨ f_X7_canGoOn σ b0 x1 = 1 := by
  unfold f_X7_canGoOn
  (repeat' split) <;> first | exact Or.inl rfl | exact Or.inr rfl | exact Or.inl rfl
set_option maxRecDepth 20000 in
set_option maxHeartbeats 4000000 in
theorem m_X7_canGoOn (l : Launch) (G : lb_G) (σ : lb_Mem) {b0 : Nat} (hb0 : lb_V b0) (x1 : Int32) (qr : Int32) (h : f_X7_canGoOn σ b0 x1 = qr) : lb_M l yX7_canGoOn cX7_canGoOn 2 (some .boolean) rmX7_canGoOn [.ref (lb_ad G b0), .int x1] G σ (lb_QI G qr σ) := by
  refine lb_start RX7 (by decide +kernel) rfl (Nat.le_of_ble_eq_true rfl) (fun p e s m below meth c X hW ls hl => ?_)
  have hx := X.1
  have hb := X.2.1
  have hl : lv_has ls 2 [(0, .ref (lb_ad G b0)), (1, .int x1)] := hl
  have h : (if x1 < (1 : Int32) then (0 : Int32) else if (60 : Int32) < x1 then (0 : Int32) else if ((999 : Int32) - x1) < (σ b0 11) then (0 : Int32) else (1 : Int32)) = qr := h
  skip
  refine lv_iload_n hx hb dX7_canGoOn_0 rfl (lv_at hl 1 rfl) ?_
  refine lv_iconst (v := 1) hx hb dX7_canGoOn_1 rfl ?_
  refine lv_icmp_lt (tgt := 27) hx hb dX7_canGoOn_2 (by decide) (fun c2 => ?_) (fun c2 => ?_)
  · have h := (if_pos c2).symm.trans h
    refine lv_iconst (v := 0) hx hb dX7_canGoOn_27 rfl ?_
    subst h
    exact lb_zret X hW (Or.inl rfl) dX7_canGoOn_28
  · have h := (if_neg c2).symm.trans h
    refine lv_iload_n hx hb dX7_canGoOn_5 rfl (lv_at hl 1 rfl) ?_
    refine lv_bipush (v := 60) hx hb dX7_canGoOn_6 rfl ?_
    refine lv_icmp_gt (tgt := 27) hx hb dX7_canGoOn_8 (by decide) (fun c8 => ?_) (fun c8 => ?_)
    · have h := (if_pos c8).symm.trans h
      refine lv_iconst (v := 0) hx hb dX7_canGoOn_27 rfl ?_
      subst h
      exact lb_zret X hW (Or.inl rfl) dX7_canGoOn_28
    · have h := (if_neg c8).symm.trans h
      refine lv_aload_n hx hb dX7_canGoOn_11 rfl (lv_at hl 0 rfl) ?_
      refine rg_X7_65 X hW hb0 dX7_canGoOn_12 ?_
      refine lv_sipush (v := 999) hx hb dX7_canGoOn_15 rfl ?_
      refine lv_iload_n hx hb dX7_canGoOn_18 rfl (lv_at hl 1 rfl) ?_
      refine lv_isub hx hb dX7_canGoOn_19 ?_
      refine lv_icmp_gt (tgt := 27) hx hb dX7_canGoOn_20 (by decide) (fun c20 => ?_) (fun c20 => ?_)
      · have h := (if_pos c20).symm.trans h
        refine lv_iconst (v := 0) hx hb dX7_canGoOn_27 rfl ?_
        subst h
        exact lb_zret X hW (Or.inl rfl) dX7_canGoOn_28
      · have h := (if_neg c20).symm.trans h
        refine lv_iconst (v := 1) hx hb dX7_canGoOn_23 rfl ?_
        refine lv_goto (tgt := 28) hx hb dX7_canGoOn_24 (by decide) ?_
        subst h
        exact lb_zret X hW (Or.inr rfl) dX7_canGoOn_28
abbrev rmX7_canOpen : Room := { frames := 0, cells := 0, slots := 0, locals := 0 }
def f_X7_canOpen (σ : lb_Mem) (b0 : Nat) (x1 : Int32) (x2 : Int32) : Option Int32 := lb_chk (lb_ix x2 8) (if (σ (b0 + 13) x2.toNatClampNeg) = x1 then lb_chk (lb_ix x2 8) (if (σ (b0 + 12) x2.toNatClampNeg) ≤ 0 then some (0 : Int32) else some (1 : Int32)) else some (0 : Int32))
set_option maxRecDepth 20000 in
set_option maxHeartbeats 4000000 in
theorem m_X7_canOpen (l : Launch) (G : lb_G) (σ : lb_Mem) {b0 : Nat} (hb0 : lb_V b0) (x1 : Int32) (x2 : Int32) (qr : Int32) (h : f_X7_canOpen σ b0 x1 x2 = some qr) : lb_M l yX7_canOpen cX7_canOpen 3 (some .boolean) rmX7_canOpen [.ref (lb_ad G b0), .int x1, .int x2] G σ (lb_QI G qr σ) := by
  refine lb_start RX7 (by decide +kernel) rfl (Nat.le_of_ble_eq_true rfl) (fun p e s m below meth c X hW ls hl => ?_)
  have hx := X.1
  have hb := X.2.1
  have hl : lv_has ls 3 [(0, .ref (lb_ad G b0)), (1, .int x1), (2, .int x2)] := hl
  have h : (lb_chk (lb_ix x2 8) (if (σ (b0 + 13) x2.toNatClampNeg) = x1 then lb_chk (lb_ix x2 8) (if (σ (b0 + 12) x2.toNatClampNeg) ≤ 0 then some (0 : Int32) else some (1 : Int32)) else some (0 : Int32))) = some qr := h
  skip
  refine lv_aload_n hx hb dX7_canOpen_0 rfl (lv_at hl 0 rfl) ?_
  refine rg_X7_49 (k := (b0 + 13)) X hW hb0 rfl dX7_canOpen_1 ?_
  refine lv_iload_n hx hb dX7_canOpen_4 rfl (lv_at hl 2 rfl) ?_
  obtain ⟨i5, h⟩ := lb_chk_in h
  refine lb_ild X hW (lb_Var13 hb0) i5 dX7_canOpen_5 ?_
  refine lv_iload_n hx hb dX7_canOpen_6 rfl (lv_at hl 1 rfl) ?_
  refine lv_icmp_ne (tgt := 23) hx hb dX7_canOpen_7 (by decide) (fun c7 => ?_) (fun c7 => ?_)
  · have h := (if_neg c7).symm.trans h
    refine lv_iconst (v := 0) hx hb dX7_canOpen_23 rfl ?_
    obtain rfl := Option.some.inj h
    exact lb_zret X hW (Or.inl rfl) dX7_canOpen_24
  · have h := (if_pos c7).symm.trans h
    refine lv_aload_n hx hb dX7_canOpen_10 rfl (lv_at hl 0 rfl) ?_
    refine rg_X7_46 (k := (b0 + 12)) X hW hb0 rfl dX7_canOpen_11 ?_
    refine lv_iload_n hx hb dX7_canOpen_14 rfl (lv_at hl 2 rfl) ?_
    obtain ⟨i15, h⟩ := lb_chk_in h
    refine lb_ild X hW (lb_Var12 hb0) i15 dX7_canOpen_15 ?_
    refine lv_if_le (tgt := 23) hx hb dX7_canOpen_16 (by decide) (fun c16 => ?_) (fun c16 => ?_)
    · have h := (if_pos c16).symm.trans h
      refine lv_iconst (v := 0) hx hb dX7_canOpen_23 rfl ?_
      obtain rfl := Option.some.inj h
      exact lb_zret X hW (Or.inl rfl) dX7_canOpen_24
    · have h := (if_neg c16).symm.trans h
      refine lv_iconst (v := 1) hx hb dX7_canOpen_19 rfl ?_
      refine lv_goto (tgt := 24) hx hb dX7_canOpen_20 (by decide) ?_
      obtain rfl := Option.some.inj h
      exact lb_zret X hW (Or.inr rfl) dX7_canOpen_24
abbrev rmX7_off : Room := { frames := 1, cells := 0, slots := 0, locals := 15 }
def f_X7_off (x0 : Int32) (x1 : Int32) : Int32 := lb_let ((if 0 ≤ (x0 - x1) then (x0 - x1) else 0 - (x0 - x1))) (fun v6 : Int32 => (if ((6 : Int32) - v6) < v6 then ((6 : Int32) - v6) else v6))
set_option maxRecDepth 20000 in
set_option maxHeartbeats 4000000 in
theorem m_X7_off (l : Launch) (G : lb_G) (σ : lb_Mem) (x0 : Int32) (x1 : Int32) (qr : Int32) (h : f_X7_off x0 x1 = qr) : lb_M l yX7_off cX7_off 3 (some .int) rmX7_off [.int x0, .int x1] G σ (lb_QI G qr σ) := by
  refine lb_start RX7 (by decide +kernel) rfl (Nat.le_of_ble_eq_true rfl) (fun p e s m below meth c X hW ls hl => ?_)
  have hx := X.1
  have hb := X.2.1
  have hl : lv_has ls 3 [(0, .int x0), (1, .int x1)] := hl
  have h : (lb_let ((if 0 ≤ (x0 - x1) then (x0 - x1) else 0 - (x0 - x1))) (fun v6 : Int32 => (if ((6 : Int32) - v6) < v6 then ((6 : Int32) - v6) else v6))) = qr := h
  skip
  refine lv_iload_n hx hb dX7_off_0 rfl (lv_at hl 0 rfl) ?_
  refine lv_iload_n hx hb dX7_off_1 rfl (lv_at hl 1 rfl) ?_
  refine lv_isub hx hb dX7_off_2 ?_
  refine va_mabs hx hb (by rw [X.2.2.1]; exact hl.1.symm) X.2.2.2.1 (X.2.2.2.2.1 _ qw_418) (X.2.2.2.2.1 _ qw_419) (X.2.2.2.2.1 _ qw_55) (X.2.2.2.2.1 _ qw_420) (Nat.le_of_ble_eq_true rfl) (Nat.le_of_ble_eq_true rfl) (Nat.zero_le _) (Nat.zero_le _) dX7_off_3 ?_
  refine lv_topi (fun v6 e6 => ?_)
  have h := lb_letI e6 h
  refine lv_istore_n (lv' := [(2, .int v6), (0, .int x0), (1, .int x1)]) hx hb dX7_off_6 rfl hl (by decide) rfl (fun ls hl => ?_)
  refine lv_iload_n hx hb dX7_off_7 rfl (lv_at hl 0 rfl) ?_
  refine lv_bipush (v := 6) hx hb dX7_off_8 rfl ?_
  refine lv_iload_n hx hb dX7_off_10 rfl (lv_at hl 0 rfl) ?_
  refine lv_isub hx hb dX7_off_11 ?_
  refine va_mmin hx hb (by rw [X.2.2.1]; exact hl.1.symm) X.2.2.2.1 (X.2.2.2.2.1 _ qw_421) (X.2.2.2.2.1 _ qw_281) (X.2.2.2.2.1 _ qw_55) (X.2.2.2.2.1 _ qw_282) (Nat.le_of_ble_eq_true rfl) (Nat.le_of_ble_eq_true rfl) (Nat.zero_le _) (Nat.zero_le _) dX7_off_12 ?_
  subst h
  exact lb_iret X hW dX7_off_15
theorem rc_X7_95 {p : Program} {l : Launch} {e : Env} {R : Room} {s : State} {m : MethodId} {args : Array Value} {below : List Frame} {meth : Method} {c : Code} {H : Heap} {locs : List Loc} {cells slots : Nat} {Q : State → Prop} {cc : ByteArray} {pc nL : Nat} {ls : Array Slot} {rest : List Value} {G : lb_G} {σ : lb_Mem} {ret : Option FieldType} (X : lb_C G p s m args meth c cc nL RX7 ret) (hW : lb_W G s σ H locs) {b0 : Nat} (hb0 : lb_V b0) {x1 : Int32} {x2 : Int32} {qr : Int32} (h : f_X7_canOpen σ b0 x1 x2 = some qr) (hR : lb_room rmX7_canOpen R 3) (hls : ls.size = nL) (hrest : (rest.map fun v => v.category).sum ≤ 8) (d : decode cc pc = .ok (.invokevirtual 95, 3)) (hcap : cells ≤ R.cells ∧ slots ≤ R.slots) (kk : ∀ (H1 : Heap) (locs1 : List Loc), lb_W G s σ H1 locs1 → W p l e R s m args below meth c H1 locs1 cells slots Q (F0 m (pc + 3) ls (.int qr :: rest))) : W p l e R s m args below meth c H locs cells slots Q (F0 m pc ls (.int x2 :: .int x1 :: .ref (lb_ad G b0) :: rest)) :=
  lb_goI hW (lb_runV (As := [.int x1, .int x2]) X hW (m_X7_canOpen l G σ hb0 x1 x2 qr h) (n := 2) ⟨qw_411, qw_44, qw_414, by decide +kernel⟩ hR qw_412 qw_413 (lb_isV hb0) rfl hls hrest d hcap) kk
theorem rc_X7_88 {p : Program} {l : Launch} {e : Env} {R : Room} {s : State} {m : MethodId} {args : Array Value} {below : List Frame} {meth : Method} {c : Code} {H : Heap} {locs : List Loc} {cells slots : Nat} {Q : State → Prop} {cc : ByteArray} {pc nL : Nat} {ls : Array Slot} {rest : List Value} {G : lb_G} {σ : lb_Mem} {ret : Option FieldType} (X : lb_C G p s m args meth c cc nL RX7 ret) (hW : lb_W G s σ H locs) (x0 : Int32) (x1 : Int32) (hR : lb_room rmX7_off R 3) (hls : ls.size = nL) (hrest : (rest.map fun v => v.category).sum ≤ 8) (d : decode cc pc = .ok (.invokestatic 88, 3)) (hcap : cells ≤ R.cells ∧ slots ≤ R.slots) (kk : ∀ (H1 : Heap) (locs1 : List Loc), lb_W G s σ H1 locs1 → W p l e R s m args below meth c H1 locs1 cells slots Q (F0 m (pc + 3) ls (.int (f_X7_off x0 x1) :: rest))) : W p l e R s m args below meth c H locs cells slots Q (F0 m pc ls (.int x1 :: .int x0 :: rest)) :=
  lb_goI hW (lb_runS (As := [.int x0, .int x1]) X hW (m_X7_off l G σ x0 x1 _ rfl) (n := 2) ⟨qw_415, qw_44, qw_417, by decide +kernel⟩ hR qw_416 rfl hls hrest d hcap) kk
abbrev rmX7_opened : Room := { frames := 2, cells := 0, slots := 0, locals := 37 }
def f_X7_opened_60 (σ : lb_Mem) (b0 : Nat) (kc9 : Int32 → Int32 → Int32 → Int32 → Option Int32) (x1 : Int32) (x2 : Int32) (x3 : Int32) (x4 : Int32) (y0 : Int32) : Option Int32 := if x3 ≤ y0 then kc9 x1 x2 x3 (x4 + 1) else kc9 x1 x4 y0 (x4 + 1)
set_option maxRecDepth 20000 in
set_option maxHeartbeats 4000000 in
theorem w_X7_opened_60 {p : Program} {l : Launch} {e : Env} {s : State} {m : MethodId} {args : Array Value} {below : List Frame} {meth : Method} {c : Code} {G : lb_G} {σ : lb_Mem} {b0 : Nat} {qr : Int32} (X : lb_C G p s m args meth c cX7_opened 6 RX7 (some .int)) (hb0 : lb_V b0) {kc9 : Int32 → Int32 → Int32 → Int32 → Option Int32} (hc9 : ∀ (x1 : Int32) (x2 : Int32) (x3 : Int32) (x4 : Int32) (H : Heap) (locs : List Loc) (ls : Array Slot), kc9 x1 x2 x3 x4 = some qr → lb_W G s σ H locs → lv_has ls 6 [(0, .ref (lb_ad G b0)), (1, .int x1), (2, .int x2), (3, .int x3), (4, .int x4)] → W p l e rmX7_opened s m args below meth c H locs 0 0 (MQ below (lb_QI G qr σ) args s 0 0 (lb_A G)) (F0 m 9 ls [])) : ∀ (x1 : Int32) (x2 : Int32) (x3 : Int32) (x4 : Int32) (y0 : Int32) (H : Heap) (locs : List Loc) (ls : Array Slot), f_X7_opened_60 σ b0 kc9 x1 x2 x3 x4 y0 = some qr → lb_W G s σ H locs → lv_has ls 6 [(0, .ref (lb_ad G b0)), (1, .int x1), (2, .int x2), (3, .int x3), (4, .int x4)] → W p l e rmX7_opened s m args below meth c H locs 0 0 (MQ below (lb_QI G qr σ) args s 0 0 (lb_A G)) (F0 m 60 ls [.int y0]) := by
  have hx := X.1
  have hb := X.2.1
  intro x1 x2 x3 x4 y0 H locs ls h hW hl
  have h : (if x3 ≤ y0 then kc9 x1 x2 x3 (x4 + 1) else kc9 x1 x4 y0 (x4 + 1)) = some qr := h
  refine lv_istore (lv' := [(5, .int y0), (0, .ref (lb_ad G b0)), (1, .int x1), (2, .int x2), (3, .int x3), (4, .int x4)]) hx hb dX7_opened_60 hl (by decide) rfl (fun ls hl => ?_)
  refine lv_iload hx hb dX7_opened_62 (lv_at hl 0 rfl) ?_
  refine lv_iload_n hx hb dX7_opened_64 rfl (lv_at hl 4 rfl) ?_
  refine lv_icmp_ge (tgt := 74) hx hb dX7_opened_65 (by decide) (fun c65 => ?_) (fun c65 => ?_)
  · have h := (if_pos c65).symm.trans h
    refine lv_iinc (v := (x4 + 1)) (lv' := [(4, .int (x4 + 1)), (5, .int y0), (0, .ref (lb_ad G b0)), (1, .int x1), (2, .int x2), (3, .int x3)]) hx hb dX7_opened_74 hl (k := 5) rfl rfl (by decide) rfl (fun ls hl => ?_)
    refine lv_goto (tgt := 9) hx hb dX7_opened_77 (by decide) ?_
    exact hc9 x1 x2 x3 (x4 + 1) _ _ _ h hW (lv_sub hl [2, 3, 4, 5, 0] rfl)
  · have h := (if_neg c65).symm.trans h
    refine lv_iload hx hb dX7_opened_68 (lv_at hl 0 rfl) ?_
    refine lv_istore_n (lv' := [(3, .int y0), (5, .int y0), (0, .ref (lb_ad G b0)), (1, .int x1), (2, .int x2), (4, .int x4)]) hx hb dX7_opened_70 rfl hl (by decide) rfl (fun ls hl => ?_)
    refine lv_iload hx hb dX7_opened_71 (lv_at hl 5 rfl) ?_
    refine lv_istore_n (lv' := [(2, .int x4), (3, .int y0), (5, .int y0), (0, .ref (lb_ad G b0)), (1, .int x1), (4, .int x4)]) hx hb dX7_opened_73 rfl hl (by decide) rfl (fun ls hl => ?_)
    refine lv_iinc (v := (x4 + 1)) (lv' := [(4, .int (x4 + 1)), (2, .int x4), (3, .int y0), (5, .int y0), (0, .ref (lb_ad G b0)), (1, .int x1)]) hx hb dX7_opened_74 hl (k := 5) rfl rfl (by decide) rfl (fun ls hl => ?_)
    refine lv_goto (tgt := 9) hx hb dX7_opened_77 (by decide) ?_
    exact hc9 x1 x4 y0 (x4 + 1) _ _ _ h hW (lv_sub hl [4, 5, 1, 2, 0] rfl)
def f_X7_opened_9 (σ : lb_Mem) (b0 : Nat) : Nat → Int32 → Int32 → Int32 → Int32 → Option Int32
  | 0, _, _, _, _ => none
  | n + 1, x1, x2, x3, x4 => if (σ b0 9) ≤ x4 then some x2 else (f_X7_canOpen σ b0 x1 x4).bind (fun q22 => if q22 = 0 then f_X7_opened_9 σ b0 n x1 x2 x3 (x4 + 1) else lb_chk (lb_ix x4 8) (if (σ (b0 + 11) x4.toNatClampNeg) = (6 : Int32) then f_X7_opened_60 σ b0 (fun (x1 : Int32) (x2 : Int32) (x3 : Int32) (x4 : Int32) => f_X7_opened_9 σ b0 n x1 x2 x3 x4) x1 x2 x3 x4 (2 : Int32) else lb_chk (lb_ix x4 8) (lb_chk (lb_ix x1 5) (f_X7_opened_60 σ b0 (fun (x1 : Int32) (x2 : Int32) (x3 : Int32) (x4 : Int32) => f_X7_opened_9 σ b0 n x1 x2 x3 x4) x1 x2 x3 x4 (f_X7_off (σ (b0 + 11) x4.toNatClampNeg) (σ (b0 + 14) x1.toNatClampNeg))))))
set_option maxRecDepth 20000 in
set_option maxHeartbeats 4000000 in
theorem w_X7_opened_9 {p : Program} {l : Launch} {e : Env} {s : State} {m : MethodId} {args : Array Value} {below : List Frame} {meth : Method} {c : Code} {G : lb_G} {σ : lb_Mem} {b0 : Nat} {qr : Int32} (X : lb_C G p s m args meth c cX7_opened 6 RX7 (some .int)) (hb0 : lb_V b0) : ∀ (n : Nat) (x1 : Int32) (x2 : Int32) (x3 : Int32) (x4 : Int32) (H : Heap) (locs : List Loc) (ls : Array Slot), f_X7_opened_9 σ b0 n x1 x2 x3 x4 = some qr → lb_W G s σ H locs → lv_has ls 6 [(0, .ref (lb_ad G b0)), (1, .int x1), (2, .int x2), (3, .int x3), (4, .int x4)] → W p l e rmX7_opened s m args below meth c H locs 0 0 (MQ below (lb_QI G qr σ) args s 0 0 (lb_A G)) (F0 m 9 ls []) := by
  have hx := X.1
  have hb := X.2.1
  intro n
  induction n with
  | zero => intro x1 x2 x3 x4 H locs ls h hW hl; exact absurd h (fun z => by cases z)
  | succ n ih =>
    intro x1 x2 x3 x4 H locs ls h hW hl
    have h : (if (σ b0 9) ≤ x4 then some x2 else (f_X7_canOpen σ b0 x1 x4).bind (fun q22 => if q22 = 0 then f_X7_opened_9 σ b0 n x1 x2 x3 (x4 + 1) else lb_chk (lb_ix x4 8) (if (σ (b0 + 11) x4.toNatClampNeg) = (6 : Int32) then f_X7_opened_60 σ b0 (fun (x1 : Int32) (x2 : Int32) (x3 : Int32) (x4 : Int32) => f_X7_opened_9 σ b0 n x1 x2 x3 x4) x1 x2 x3 x4 (2 : Int32) else lb_chk (lb_ix x4 8) (lb_chk (lb_ix x1 5) (f_X7_opened_60 σ b0 (fun (x1 : Int32) (x2 : Int32) (x3 : Int32) (x4 : Int32) => f_X7_opened_9 σ b0 n x1 x2 x3 x4) x1 x2 x3 x4 (f_X7_off (σ (b0 + 11) x4.toNatClampNeg) (σ (b0 + 14) x1.toNatClampNeg))))))) = some qr := h
    refine lv_iload hx hb dX7_opened_9 (lv_at hl 4 rfl) ?_
    refine lv_aload_n hx hb dX7_opened_11 rfl (lv_at hl 0 rfl) ?_
    refine rg_X7_58 X hW hb0 dX7_opened_12 ?_
    refine lv_icmp_ge (tgt := 80) hx hb dX7_opened_15 (by decide) (fun c15 => ?_) (fun c15 => ?_)
    · have h := (if_pos c15).symm.trans h
      refine lv_iload_n hx hb dX7_opened_80 rfl (lv_at hl 2 rfl) ?_
      obtain rfl := Option.some.inj h
      exact lb_iret X hW dX7_opened_81
    · have h := (if_neg c15).symm.trans h
      refine lv_aload_n hx hb dX7_opened_18 rfl (lv_at hl 0 rfl) ?_
      refine lv_iload_n hx hb dX7_opened_19 rfl (lv_at hl 1 rfl) ?_
      refine lv_iload hx hb dX7_opened_20 (lv_at hl 4 rfl) ?_
      obtain ⟨q22, e22, h⟩ := lb_bind h
      refine rc_X7_95 X hW hb0 e22 ⟨⟨rfl, rfl⟩, Nat.le_of_ble_eq_true rfl, Nat.le_of_ble_eq_true rfl⟩ hl.1 (Nat.le_of_ble_eq_true rfl) dX7_opened_22 ⟨Nat.zero_le _, Nat.zero_le _⟩ (fun H locs hW => ?_)
      refine lv_if_eq (tgt := 74) hx hb dX7_opened_25 (by decide) (fun c25 => ?_) (fun c25 => ?_)
      · have h := (if_pos c25).symm.trans h
        refine lv_iinc (v := (x4 + 1)) (lv' := [(4, .int (x4 + 1)), (0, .ref (lb_ad G b0)), (1, .int x1), (2, .int x2), (3, .int x3)]) hx hb dX7_opened_74 hl (k := 4) rfl rfl (by decide) rfl (fun ls hl => ?_)
        refine lv_goto (tgt := 9) hx hb dX7_opened_77 (by decide) ?_
        exact ih x1 x2 x3 (x4 + 1) _ _ _ h hW (lv_sub hl [1, 2, 3, 4, 0] rfl)
      · have h := (if_neg c25).symm.trans h
        refine lv_aload_n hx hb dX7_opened_28 rfl (lv_at hl 0 rfl) ?_
        refine rg_X7_43 (k := (b0 + 11)) X hW hb0 rfl dX7_opened_29 ?_
        refine lv_iload hx hb dX7_opened_32 (lv_at hl 4 rfl) ?_
        obtain ⟨i34, h⟩ := lb_chk_in h
        refine lb_ild X hW (lb_Var11 hb0) i34 dX7_opened_34 ?_
        refine lv_bipush (v := 6) hx hb dX7_opened_35 rfl ?_
        refine lv_icmp_ne (tgt := 44) hx hb dX7_opened_37 (by decide) (fun c37 => ?_) (fun c37 => ?_)
        · have h := (if_neg c37).symm.trans h
          refine lv_aload_n hx hb dX7_opened_44 rfl (lv_at hl 0 rfl) ?_
          refine rg_X7_43 (k := (b0 + 11)) X hW hb0 rfl dX7_opened_45 ?_
          refine lv_iload hx hb dX7_opened_48 (lv_at hl 4 rfl) ?_
          obtain ⟨i50, h⟩ := lb_chk_in h
          refine lb_ild X hW (lb_Var11 hb0) i50 dX7_opened_50 ?_
          refine lv_aload_n hx hb dX7_opened_51 rfl (lv_at hl 0 rfl) ?_
          refine rg_X7_52 (k := (b0 + 14)) X hW hb0 rfl dX7_opened_52 ?_
          refine lv_iload_n hx hb dX7_opened_55 rfl (lv_at hl 1 rfl) ?_
          obtain ⟨i56, h⟩ := lb_chk_in h
          refine lb_ild X hW (lb_Var14 hb0) i56 dX7_opened_56 ?_
          refine rc_X7_88 X hW (σ (b0 + 11) x4.toNatClampNeg) (σ (b0 + 14) x1.toNatClampNeg) ⟨⟨rfl, rfl⟩, Nat.le_of_ble_eq_true rfl, Nat.le_of_ble_eq_true rfl⟩ hl.1 (Nat.le_of_ble_eq_true rfl) dX7_opened_57 ⟨Nat.zero_le _, Nat.zero_le _⟩ (fun H locs hW => ?_)
          exact w_X7_opened_60 X hb0 ih x1 x2 x3 x4 (f_X7_off (σ (b0 + 11) x4.toNatClampNeg) (σ (b0 + 14) x1.toNatClampNeg)) _ _ _ h hW (lv_sub hl [0, 1, 2, 3, 4] rfl)
        · have h := (if_pos c37).symm.trans h
          refine lv_iconst (v := 2) hx hb dX7_opened_40 rfl ?_
          refine lv_goto (tgt := 60) hx hb dX7_opened_41 (by decide) ?_
          exact w_X7_opened_60 X hb0 ih x1 x2 x3 x4 (2 : Int32) _ _ _ h hW (lv_sub hl [0, 1, 2, 3, 4] rfl)
def f_X7_opened (σ : lb_Mem) (b0 : Nat) (x1 : Int32) : Option Int32 := f_X7_opened_9 σ b0 lb_N x1 (-9 : Int32) (6 : Int32) (0 : Int32)
set_option maxRecDepth 20000 in
set_option maxHeartbeats 4000000 in
theorem m_X7_opened (l : Launch) (G : lb_G) (σ : lb_Mem) {b0 : Nat} (hb0 : lb_V b0) (x1 : Int32) (qr : Int32) (h : f_X7_opened σ b0 x1 = some qr) : lb_M l yX7_opened cX7_opened 6 (some .int) rmX7_opened [.ref (lb_ad G b0), .int x1] G σ (lb_QI G qr σ) := by
  refine lb_start RX7 (by decide +kernel) rfl (Nat.le_of_ble_eq_true rfl) (fun p e s m below meth c X hW ls hl => ?_)
  have hx := X.1
  have hb := X.2.1
  have hl : lv_has ls 6 [(0, .ref (lb_ad G b0)), (1, .int x1)] := hl
  have h : (f_X7_opened_9 σ b0 lb_N x1 (-9 : Int32) (6 : Int32) (0 : Int32)) = some qr := h
  skip
  refine lv_bipush (v := -9) hx hb dX7_opened_0 rfl ?_
  refine lv_istore_n (lv' := [(2, .int (-9 : Int32)), (0, .ref (lb_ad G b0)), (1, .int x1)]) hx hb dX7_opened_2 rfl hl (by decide) rfl (fun ls hl => ?_)
  refine lv_bipush (v := 6) hx hb dX7_opened_3 rfl ?_
  refine lv_istore_n (lv' := [(3, .int (6 : Int32)), (2, .int (-9 : Int32)), (0, .ref (lb_ad G b0)), (1, .int x1)]) hx hb dX7_opened_5 rfl hl (by decide) rfl (fun ls hl => ?_)
  refine lv_iconst (v := 0) hx hb dX7_opened_6 rfl ?_
  refine lv_istore (lv' := [(4, .int (0 : Int32)), (3, .int (6 : Int32)), (2, .int (-9 : Int32)), (0, .ref (lb_ad G b0)), (1, .int x1)]) hx hb dX7_opened_7 hl (by decide) rfl (fun ls hl => ?_)
  exact w_X7_opened_9 X hb0 lb_N x1 (-9 : Int32) (6 : Int32) (0 : Int32) _ _ _ h hW (lv_sub hl [3, 4, 2, 1, 0] rfl)
abbrev rmX7_gained : Room := { frames := 3, cells := 0, slots := 0, locals := 70 }
def f_X7_gained_30 (σ : lb_Mem) (b0 : Nat) (x1 : Int32) (x2 : Int32) (y0 : Int32) : Option Int32 := lb_chk (lb_ix x1 8) (lb_chk (lb_ix x2 5) (lb_let ((f_X7_off (σ (b0 + 10) x1.toNatClampNeg) (σ (b0 + 14) x2.toNatClampNeg))) (fun v46 : Int32 => lb_chk (lb_ix x1 8) (lb_chk (lb_ix (σ (b0 + 8) x1.toNatClampNeg) 6) (lb_chk (lb_ix x1 8) (some (lb_spoon (σ (b0 + 8) x1.toNatClampNeg) (σ (b0 + 9) x1.toNatClampNeg) y0 v46)))))))
set_option maxRecDepth 20000 in
set_option maxHeartbeats 4000000 in
theorem w_X7_gained_30 {p : Program} {l : Launch} {e : Env} {s : State} {m : MethodId} {args : Array Value} {below : List Frame} {meth : Method} {c : Code} {G : lb_G} {σ : lb_Mem} {b0 : Nat} {qr : Int32} (X : lb_C G p s m args meth c cX7_gained 5 RX7 (some .int)) (hb0 : lb_V b0) : ∀ (x1 : Int32) (x2 : Int32) (y0 : Int32) (H : Heap) (locs : List Loc) (ls : Array Slot), f_X7_gained_30 σ b0 x1 x2 y0 = some qr → lb_W G s σ H locs → lv_has ls 5 [(0, .ref (lb_ad G b0)), (1, .int x1), (2, .int x2)] → W p l e rmX7_gained s m args below meth c H locs 0 0 (MQ below (lb_QI G qr σ) args s 0 0 (lb_A G)) (F0 m 30 ls [.int y0]) := by
  have hx := X.1
  have hb := X.2.1
  intro x1 x2 y0 H locs ls h hW hl
  have h : (lb_chk (lb_ix x1 8) (lb_chk (lb_ix x2 5) (lb_let ((f_X7_off (σ (b0 + 10) x1.toNatClampNeg) (σ (b0 + 14) x2.toNatClampNeg))) (fun v46 : Int32 => lb_chk (lb_ix x1 8) (lb_chk (lb_ix (σ (b0 + 8) x1.toNatClampNeg) 6) (lb_chk (lb_ix x1 8) (some (lb_spoon (σ (b0 + 8) x1.toNatClampNeg) (σ (b0 + 9) x1.toNatClampNeg) y0 v46)))))))) = some qr := h
  refine lv_istore_n (lv' := [(3, .int y0), (0, .ref (lb_ad G b0)), (1, .int x1), (2, .int x2)]) hx hb dX7_gained_30 rfl hl (by decide) rfl (fun ls hl => ?_)
  refine lv_aload_n hx hb dX7_gained_31 rfl (lv_at hl 1 rfl) ?_
  refine rg_X7_40 (k := (b0 + 10)) X hW hb0 rfl dX7_gained_32 ?_
  refine lv_iload_n hx hb dX7_gained_35 rfl (lv_at hl 2 rfl) ?_
  obtain ⟨i36, h⟩ := lb_chk_in h
  refine lb_ild X hW (lb_Var10 hb0) i36 dX7_gained_36 ?_
  refine lv_aload_n hx hb dX7_gained_37 rfl (lv_at hl 1 rfl) ?_
  refine rg_X7_52 (k := (b0 + 14)) X hW hb0 rfl dX7_gained_38 ?_
  refine lv_iload_n hx hb dX7_gained_41 rfl (lv_at hl 3 rfl) ?_
  obtain ⟨i42, h⟩ := lb_chk_in h
  refine lb_ild X hW (lb_Var14 hb0) i42 dX7_gained_42 ?_
  refine rc_X7_88 X hW (σ (b0 + 10) x1.toNatClampNeg) (σ (b0 + 14) x2.toNatClampNeg) ⟨⟨rfl, rfl⟩, Nat.le_of_ble_eq_true rfl, Nat.le_of_ble_eq_true rfl⟩ hl.1 (Nat.le_of_ble_eq_true rfl) dX7_gained_43 ⟨Nat.zero_le _, Nat.zero_le _⟩ (fun H locs hW => ?_)
  refine lv_topi (fun v46 e46 => ?_)
  have h := lb_letI e46 h
  refine lv_istore (lv' := [(4, .int v46), (3, .int y0), (0, .ref (lb_ad G b0)), (1, .int x1), (2, .int x2)]) hx hb dX7_gained_46 hl (by decide) rfl (fun ls hl => ?_)
  refine lv_aload_n hx hb dX7_gained_48 rfl (lv_at hl 2 rfl) ?_
  refine rg_X7_27 (k := (b0 + 1)) X hW hb0 rfl dX7_gained_49 ?_
  refine lv_aload_n hx hb dX7_gained_52 rfl (lv_at hl 2 rfl) ?_
  refine rg_X7_33 (k := (b0 + 8)) X hW hb0 rfl dX7_gained_53 ?_
  refine lv_iload_n hx hb dX7_gained_56 rfl (lv_at hl 3 rfl) ?_
  obtain ⟨i57, h⟩ := lb_chk_in h
  refine lb_ild X hW (lb_Var8 hb0) i57 dX7_gained_57 ?_
  obtain ⟨i58, h⟩ := lb_chk_in h
  refine lb_ald X hW hb0 i58 dX7_gained_58 ?_
  refine lv_aload_n hx hb dX7_gained_59 rfl (lv_at hl 2 rfl) ?_
  refine rg_X7_37 (k := (b0 + 9)) X hW hb0 rfl dX7_gained_60 ?_
  refine lv_iload_n hx hb dX7_gained_63 rfl (lv_at hl 3 rfl) ?_
  obtain ⟨i64, h⟩ := lb_chk_in h
  refine lb_ild X hW (lb_Var9 hb0) i64 dX7_gained_64 ?_
  refine lv_iload_n hx hb dX7_gained_65 rfl (lv_at hl 1 rfl) ?_
  refine lv_iload hx hb dX7_gained_66 (lv_at hl 0 rfl) ?_
  refine lb_spoonR X hW hb0 i58 (σ (b0 + 9) x1.toNatClampNeg) y0 v46 (Nat.le_of_ble_eq_true rfl) (Nat.le_of_ble_eq_true rfl) hl.1 (Nat.le_of_ble_eq_true rfl) qw_426 dX7_gained_68 ⟨Nat.zero_le _, Nat.zero_le _⟩ (fun H locs hW => ?_)
  obtain rfl := Option.some.inj h
  exact lb_iret X hW dX7_gained_71
def f_X7_gained (σ : lb_Mem) (b0 : Nat) (x1 : Int32) (x2 : Int32) : Option Int32 := lb_chk (lb_ix x1 8) (if (σ (b0 + 11) x1.toNatClampNeg) = (6 : Int32) then f_X7_gained_30 σ b0 x1 x2 (1 : Int32) else lb_chk (lb_ix x1 8) (lb_chk (lb_ix x1 8) (f_X7_gained_30 σ b0 x1 x2 (f_X7_off (σ (b0 + 10) x1.toNatClampNeg) (σ (b0 + 11) x1.toNatClampNeg)))))
set_option maxRecDepth 20000 in
set_option maxHeartbeats 4000000 in
theorem m_X7_gained (l : Launch) (G : lb_G) (σ : lb_Mem) {b0 : Nat} (hb0 : lb_V b0) (x1 : Int32) (x2 : Int32) (qr : Int32) (h : f_X7_gained σ b0 x1 x2 = some qr) : lb_M l yX7_gained cX7_gained 5 (some .int) rmX7_gained [.ref (lb_ad G b0), .int x1, .int x2] G σ (lb_QI G qr σ) := by
  refine lb_start RX7 (by decide +kernel) rfl (Nat.le_of_ble_eq_true rfl) (fun p e s m below meth c X hW ls hl => ?_)
  have hx := X.1
  have hb := X.2.1
  have hl : lv_has ls 5 [(0, .ref (lb_ad G b0)), (1, .int x1), (2, .int x2)] := hl
  have h : (lb_chk (lb_ix x1 8) (if (σ (b0 + 11) x1.toNatClampNeg) = (6 : Int32) then f_X7_gained_30 σ b0 x1 x2 (1 : Int32) else lb_chk (lb_ix x1 8) (lb_chk (lb_ix x1 8) (f_X7_gained_30 σ b0 x1 x2 (f_X7_off (σ (b0 + 10) x1.toNatClampNeg) (σ (b0 + 11) x1.toNatClampNeg)))))) = some qr := h
  skip
  refine lv_aload_n hx hb dX7_gained_0 rfl (lv_at hl 0 rfl) ?_
  refine rg_X7_43 (k := (b0 + 11)) X hW hb0 rfl dX7_gained_1 ?_
  refine lv_iload_n hx hb dX7_gained_4 rfl (lv_at hl 1 rfl) ?_
  obtain ⟨i5, h⟩ := lb_chk_in h
  refine lb_ild X hW (lb_Var11 hb0) i5 dX7_gained_5 ?_
  refine lv_bipush (v := 6) hx hb dX7_gained_6 rfl ?_
  refine lv_icmp_ne (tgt := 15) hx hb dX7_gained_8 (by decide) (fun c8 => ?_) (fun c8 => ?_)
  · have h := (if_neg c8).symm.trans h
    refine lv_aload_n hx hb dX7_gained_15 rfl (lv_at hl 0 rfl) ?_
    refine rg_X7_40 (k := (b0 + 10)) X hW hb0 rfl dX7_gained_16 ?_
    refine lv_iload_n hx hb dX7_gained_19 rfl (lv_at hl 1 rfl) ?_
    obtain ⟨i20, h⟩ := lb_chk_in h
    refine lb_ild X hW (lb_Var10 hb0) i20 dX7_gained_20 ?_
    refine lv_aload_n hx hb dX7_gained_21 rfl (lv_at hl 0 rfl) ?_
    refine rg_X7_43 (k := (b0 + 11)) X hW hb0 rfl dX7_gained_22 ?_
    refine lv_iload_n hx hb dX7_gained_25 rfl (lv_at hl 1 rfl) ?_
    obtain ⟨i26, h⟩ := lb_chk_in h
    refine lb_ild X hW (lb_Var11 hb0) i26 dX7_gained_26 ?_
    refine rc_X7_88 X hW (σ (b0 + 10) x1.toNatClampNeg) (σ (b0 + 11) x1.toNatClampNeg) ⟨⟨rfl, rfl⟩, Nat.le_of_ble_eq_true rfl, Nat.le_of_ble_eq_true rfl⟩ hl.1 (Nat.le_of_ble_eq_true rfl) dX7_gained_27 ⟨Nat.zero_le _, Nat.zero_le _⟩ (fun H locs hW => ?_)
    exact w_X7_gained_30 X hb0 x1 x2 (f_X7_off (σ (b0 + 10) x1.toNatClampNeg) (σ (b0 + 11) x1.toNatClampNeg)) _ _ _ h hW (lv_sub hl [0, 1, 2] rfl)
  · have h := (if_pos c8).symm.trans h
    refine lv_iconst (v := 1) hx hb dX7_gained_11 rfl ?_
    refine lv_goto (tgt := 30) hx hb dX7_gained_12 (by decide) ?_
    exact w_X7_gained_30 X hb0 x1 x2 (1 : Int32) _ _ _ h hW (lv_sub hl [0, 1, 2] rfl)
theorem rc_X7_103 {p : Program} {l : Launch} {e : Env} {R : Room} {s : State} {m : MethodId} {args : Array Value} {below : List Frame} {meth : Method} {c : Code} {H : Heap} {locs : List Loc} {cells slots : Nat} {Q : State → Prop} {cc : ByteArray} {pc nL : Nat} {ls : Array Slot} {rest : List Value} {G : lb_G} {σ : lb_Mem} {ret : Option FieldType} (X : lb_C G p s m args meth c cc nL RX7 ret) (hW : lb_W G s σ H locs) {b0 : Nat} (hb0 : lb_V b0) {x1 : Int32} {qr : Int32} (h : f_X7_opened σ b0 x1 = some qr) (hR : lb_room rmX7_opened R 6) (hls : ls.size = nL) (hrest : (rest.map fun v => v.category).sum ≤ 8) (d : decode cc pc = .ok (.invokevirtual 103, 3)) (hcap : cells ≤ R.cells ∧ slots ≤ R.slots) (kk : ∀ (H1 : Heap) (locs1 : List Loc), lb_W G s σ H1 locs1 → W p l e R s m args below meth c H1 locs1 cells slots Q (F0 m (pc + 3) ls (.int qr :: rest))) : W p l e R s m args below meth c H locs cells slots Q (F0 m pc ls (.int x1 :: .ref (lb_ad G b0) :: rest)) :=
  lb_goI hW (lb_runV (As := [.int x1]) X hW (m_X7_opened l G σ hb0 x1 qr h) (n := 1) ⟨qw_407, qw_44, qw_410, by decide +kernel⟩ hR qw_408 qw_409 (lb_isV hb0) rfl hls hrest d hcap) kk
theorem rc_X7_106 {p : Program} {l : Launch} {e : Env} {R : Room} {s : State} {m : MethodId} {args : Array Value} {below : List Frame} {meth : Method} {c : Code} {H : Heap} {locs : List Loc} {cells slots : Nat} {Q : State → Prop} {cc : ByteArray} {pc nL : Nat} {ls : Array Slot} {rest : List Value} {G : lb_G} {σ : lb_Mem} {ret : Option FieldType} (X : lb_C G p s m args meth c cc nL RX7 ret) (hW : lb_W G s σ H locs) {b0 : Nat} (hb0 : lb_V b0) {x1 : Int32} {x2 : Int32} {qr : Int32} (h : f_X7_gained σ b0 x1 x2 = some qr) (hR : lb_room rmX7_gained R 5) (hls : ls.size = nL) (hrest : (rest.map fun v => v.category).sum ≤ 8) (d : decode cc pc = .ok (.invokevirtual 106, 3)) (hcap : cells ≤ R.cells ∧ slots ≤ R.slots) (kk : ∀ (H1 : Heap) (locs1 : List Loc), lb_W G s σ H1 locs1 → W p l e R s m args below meth c H1 locs1 cells slots Q (F0 m (pc + 3) ls (.int qr :: rest))) : W p l e R s m args below meth c H locs cells slots Q (F0 m pc ls (.int x2 :: .int x1 :: .ref (lb_ad G b0) :: rest)) :=
  lb_goI hW (lb_runV (As := [.int x1, .int x2]) X hW (m_X7_gained l G σ hb0 x1 x2 qr h) (n := 2) ⟨qw_422, qw_44, qw_425, by decide +kernel⟩ hR qw_423 qw_424 (lb_isV hb0) rfl hls hrest d hcap) kk
abbrev rmX7_passFor : Room := { frames := 4, cells := 0, slots := 0, locals := 94 }
def f_X7_passFor_44 (b0 : Nat) (kc2 : Int32 → Int32 → Int32 → lb_Mem → Option lb_Mem) (x1 : Int32) (x2 : Int32) (x3 : Int32) (x5 : Int32) (σ : lb_Mem) : Option lb_Mem := lb_chk (lb_ix x1 5) (lb_chk (lb_ix x1 5) (lb_let (lb_sto σ (b0 + 15) x1.toNatClampNeg (if (0 : Int32) < (if ((σ (b0 + 15) x1.toNatClampNeg) + x5) < (99 : Int32) then ((σ (b0 + 15) x1.toNatClampNeg) + x5) else (99 : Int32)) then (if ((σ (b0 + 15) x1.toNatClampNeg) + x5) < (99 : Int32) then ((σ (b0 + 15) x1.toNatClampNeg) + x5) else (99 : Int32)) else (0 : Int32))) (fun s67 : lb_Mem => kc2 x1 x2 (x3 + 1) s67)))
set_option maxRecDepth 20000 in
set_option maxHeartbeats 4000000 in
theorem w_X7_passFor_44 {p : Program} {l : Launch} {e : Env} {s : State} {m : MethodId} {args : Array Value} {below : List Frame} {meth : Method} {c : Code} {G : lb_G} {b0 : Nat} {qr : lb_Mem} (X : lb_C G p s m args meth c cX7_passFor 6 RX7 none) (hb0 : lb_V b0) {kc2 : Int32 → Int32 → Int32 → lb_Mem → Option lb_Mem} (hc2 : ∀ (x1 : Int32) (x2 : Int32) (x3 : Int32) (σ : lb_Mem) (H : Heap) (locs : List Loc) (ls : Array Slot), kc2 x1 x2 x3 σ = some qr → lb_W G s σ H locs → lv_has ls 6 [(0, .ref (lb_ad G b0)), (1, .int x1), (2, .int x2), (3, .int x3)] → W p l e rmX7_passFor s m args below meth c H locs 0 0 (MQ below (lb_QV G qr) args s 0 0 (lb_A G)) (F0 m 2 ls [])) : ∀ (x1 : Int32) (x2 : Int32) (x3 : Int32) (x5 : Int32) (σ : lb_Mem) (H : Heap) (locs : List Loc) (ls : Array Slot), f_X7_passFor_44 b0 kc2 x1 x2 x3 x5 σ = some qr → lb_W G s σ H locs → lv_has ls 6 [(0, .ref (lb_ad G b0)), (1, .int x1), (2, .int x2), (3, .int x3), (5, .int x5)] → W p l e rmX7_passFor s m args below meth c H locs 0 0 (MQ below (lb_QV G qr) args s 0 0 (lb_A G)) (F0 m 44 ls []) := by
  have hx := X.1
  have hb := X.2.1
  intro x1 x2 x3 x5 σ H locs ls h hW hl
  have h : (lb_chk (lb_ix x1 5) (lb_chk (lb_ix x1 5) (lb_let (lb_sto σ (b0 + 15) x1.toNatClampNeg (if (0 : Int32) < (if ((σ (b0 + 15) x1.toNatClampNeg) + x5) < (99 : Int32) then ((σ (b0 + 15) x1.toNatClampNeg) + x5) else (99 : Int32)) then (if ((σ (b0 + 15) x1.toNatClampNeg) + x5) < (99 : Int32) then ((σ (b0 + 15) x1.toNatClampNeg) + x5) else (99 : Int32)) else (0 : Int32))) (fun s67 : lb_Mem => kc2 x1 x2 (x3 + 1) s67)))) = some qr := h
  refine lv_aload_n hx hb dX7_passFor_44 rfl (lv_at hl 0 rfl) ?_
  refine rg_X7_55 (k := (b0 + 15)) X hW hb0 rfl dX7_passFor_45 ?_
  refine lv_iload_n hx hb dX7_passFor_48 rfl (lv_at hl 1 rfl) ?_
  refine lv_iconst (v := 0) hx hb dX7_passFor_49 rfl ?_
  refine lv_bipush (v := 99) hx hb dX7_passFor_50 rfl ?_
  refine lv_aload_n hx hb dX7_passFor_52 rfl (lv_at hl 0 rfl) ?_
  refine rg_X7_55 (k := (b0 + 15)) X hW hb0 rfl dX7_passFor_53 ?_
  refine lv_iload_n hx hb dX7_passFor_56 rfl (lv_at hl 1 rfl) ?_
  obtain ⟨i57, h⟩ := lb_chk_in h
  refine lb_ild X hW (lb_Var15 hb0) i57 dX7_passFor_57 ?_
  refine lv_iload hx hb dX7_passFor_58 (lv_at hl 4 rfl) ?_
  refine lv_iadd hx hb dX7_passFor_60 ?_
  refine va_mmin hx hb (by rw [X.2.2.1]; exact hl.1.symm) X.2.2.2.1 (X.2.2.2.2.1 _ qw_421) (X.2.2.2.2.1 _ qw_281) (X.2.2.2.2.1 _ qw_55) (X.2.2.2.2.1 _ qw_282) (Nat.le_of_ble_eq_true rfl) (Nat.le_of_ble_eq_true rfl) (Nat.zero_le _) (Nat.zero_le _) dX7_passFor_61 ?_
  refine va_mmax hx hb (by rw [X.2.2.1]; exact hl.1.symm) X.2.2.2.1 (X.2.2.2.2.1 _ qw_452) (X.2.2.2.2.1 _ qw_278) (X.2.2.2.2.1 _ qw_55) (X.2.2.2.2.1 _ qw_279) (Nat.le_of_ble_eq_true rfl) (Nat.le_of_ble_eq_true rfl) (Nat.zero_le _) (Nat.zero_le _) dX7_passFor_64 ?_
  obtain ⟨i67, h⟩ := lb_chk_in h
  refine lb_ist X hW (lb_Var15 hb0) i67 dX7_passFor_67 (fun H locs hW => ?_)
  obtain ⟨s67, e67⟩ : ∃ z, z = lb_sto σ (b0 + 15) x1.toNatClampNeg (if (0 : Int32) < (if ((σ (b0 + 15) x1.toNatClampNeg) + x5) < (99 : Int32) then ((σ (b0 + 15) x1.toNatClampNeg) + x5) else (99 : Int32)) then (if ((σ (b0 + 15) x1.toNatClampNeg) + x5) < (99 : Int32) then ((σ (b0 + 15) x1.toNatClampNeg) + x5) else (99 : Int32)) else (0 : Int32)) := ⟨_, rfl⟩
  rw [← e67] at hW
  have h := lb_letI e67 h
  refine lv_iinc (v := (x3 + 1)) (lv' := [(3, .int (x3 + 1)), (0, .ref (lb_ad G b0)), (1, .int x1), (2, .int x2), (5, .int x5)]) hx hb dX7_passFor_68 hl (k := 3) rfl rfl (by decide) rfl (fun ls hl => ?_)
  refine lv_goto (tgt := 2) hx hb dX7_passFor_71 (by decide) ?_
  exact hc2 x1 x2 (x3 + 1) s67 _ _ _ h hW (lv_sub hl [1, 2, 3, 0] rfl)
def f_X7_passFor_2 (b0 : Nat) : Nat → Int32 → Int32 → Int32 → lb_Mem → Option lb_Mem
  | 0, _, _, _, _ => none
  | n + 1, x1, x2, x3, σ => if x2 ≤ x3 then some σ else (f_X7_opened σ b0 x1).bind (fun q9 => if q9 = (-9 : Int32) then f_X7_passFor_44 b0 (fun (x1 : Int32) (x2 : Int32) (x3 : Int32) (σ : lb_Mem) => f_X7_passFor_2 b0 n x1 x2 x3 σ) x1 x2 x3 (-1 : Int32) σ else (f_X7_gained σ b0 q9 x1).bind (fun q28 => lb_chk (lb_ix q9 8) (lb_chk (lb_ix q9 8) (lb_let (lb_sto σ (b0 + 12) q9.toNatClampNeg ((σ (b0 + 12) q9.toNatClampNeg) - (1 : Int32))) (fun s43 : lb_Mem => f_X7_passFor_44 b0 (fun (x1 : Int32) (x2 : Int32) (x3 : Int32) (σ : lb_Mem) => f_X7_passFor_2 b0 n x1 x2 x3 σ) x1 x2 x3 q28 s43)))))
set_option maxRecDepth 20000 in
set_option maxHeartbeats 4000000 in
theorem w_X7_passFor_2 {p : Program} {l : Launch} {e : Env} {s : State} {m : MethodId} {args : Array Value} {below : List Frame} {meth : Method} {c : Code} {G : lb_G} {b0 : Nat} {qr : lb_Mem} (X : lb_C G p s m args meth c cX7_passFor 6 RX7 none) (hb0 : lb_V b0) : ∀ (n : Nat) (x1 : Int32) (x2 : Int32) (x3 : Int32) (σ : lb_Mem) (H : Heap) (locs : List Loc) (ls : Array Slot), f_X7_passFor_2 b0 n x1 x2 x3 σ = some qr → lb_W G s σ H locs → lv_has ls 6 [(0, .ref (lb_ad G b0)), (1, .int x1), (2, .int x2), (3, .int x3)] → W p l e rmX7_passFor s m args below meth c H locs 0 0 (MQ below (lb_QV G qr) args s 0 0 (lb_A G)) (F0 m 2 ls []) := by
  have hx := X.1
  have hb := X.2.1
  intro n
  induction n with
  | zero => intro x1 x2 x3 σ H locs ls h hW hl; exact absurd h (fun z => by cases z)
  | succ n ih =>
    intro x1 x2 x3 σ H locs ls h hW hl
    have h : (if x2 ≤ x3 then some σ else (f_X7_opened σ b0 x1).bind (fun q9 => if q9 = (-9 : Int32) then f_X7_passFor_44 b0 (fun (x1 : Int32) (x2 : Int32) (x3 : Int32) (σ : lb_Mem) => f_X7_passFor_2 b0 n x1 x2 x3 σ) x1 x2 x3 (-1 : Int32) σ else (f_X7_gained σ b0 q9 x1).bind (fun q28 => lb_chk (lb_ix q9 8) (lb_chk (lb_ix q9 8) (lb_let (lb_sto σ (b0 + 12) q9.toNatClampNeg ((σ (b0 + 12) q9.toNatClampNeg) - (1 : Int32))) (fun s43 : lb_Mem => f_X7_passFor_44 b0 (fun (x1 : Int32) (x2 : Int32) (x3 : Int32) (σ : lb_Mem) => f_X7_passFor_2 b0 n x1 x2 x3 σ) x1 x2 x3 q28 s43)))))) = some qr := h
    refine lv_iload_n hx hb dX7_passFor_2 rfl (lv_at hl 3 rfl) ?_
    refine lv_iload_n hx hb dX7_passFor_3 rfl (lv_at hl 2 rfl) ?_
    refine lv_icmp_ge (tgt := 74) hx hb dX7_passFor_4 (by decide) (fun c4 => ?_) (fun c4 => ?_)
    · have h := (if_pos c4).symm.trans h
      obtain rfl := Option.some.inj h
      exact lb_vret X hW dX7_passFor_74
    · have h := (if_neg c4).symm.trans h
      refine lv_aload_n hx hb dX7_passFor_7 rfl (lv_at hl 0 rfl) ?_
      refine lv_iload_n hx hb dX7_passFor_8 rfl (lv_at hl 1 rfl) ?_
      obtain ⟨q9, e9, h⟩ := lb_bind h
      refine rc_X7_103 X hW hb0 e9 ⟨⟨rfl, rfl⟩, Nat.le_of_ble_eq_true rfl, Nat.le_of_ble_eq_true rfl⟩ hl.1 (Nat.le_of_ble_eq_true rfl) dX7_passFor_9 ⟨Nat.zero_le _, Nat.zero_le _⟩ (fun H locs hW => ?_)
      refine lv_istore (lv' := [(4, .int q9), (0, .ref (lb_ad G b0)), (1, .int x1), (2, .int x2), (3, .int x3)]) hx hb dX7_passFor_12 hl (by decide) rfl (fun ls hl => ?_)
      refine lv_iconst (v := -1) hx hb dX7_passFor_14 rfl ?_
      refine lv_istore (lv' := [(5, .int (-1 : Int32)), (4, .int q9), (0, .ref (lb_ad G b0)), (1, .int x1), (2, .int x2), (3, .int x3)]) hx hb dX7_passFor_15 hl (by decide) rfl (fun ls hl => ?_)
      refine lv_iload hx hb dX7_passFor_17 (lv_at hl 1 rfl) ?_
      refine lv_bipush (v := -9) hx hb dX7_passFor_19 rfl ?_
      refine lv_icmp_eq (tgt := 44) hx hb dX7_passFor_21 (by decide) (fun c21 => ?_) (fun c21 => ?_)
      · have h := (if_pos c21).symm.trans h
        exact w_X7_passFor_44 X hb0 ih x1 x2 x3 (-1 : Int32) σ _ _ _ h hW (lv_sub hl [2, 3, 4, 5, 0] rfl)
      · have h := (if_neg c21).symm.trans h
        refine lv_aload_n hx hb dX7_passFor_24 rfl (lv_at hl 2 rfl) ?_
        refine lv_iload hx hb dX7_passFor_25 (lv_at hl 1 rfl) ?_
        refine lv_iload_n hx hb dX7_passFor_27 rfl (lv_at hl 3 rfl) ?_
        obtain ⟨q28, e28, h⟩ := lb_bind h
        refine rc_X7_106 X hW hb0 e28 ⟨⟨rfl, rfl⟩, Nat.le_of_ble_eq_true rfl, Nat.le_of_ble_eq_true rfl⟩ hl.1 (Nat.le_of_ble_eq_true rfl) dX7_passFor_28 ⟨Nat.zero_le _, Nat.zero_le _⟩ (fun H locs hW => ?_)
        refine lv_istore (lv' := [(5, .int q28), (4, .int q9), (0, .ref (lb_ad G b0)), (1, .int x1), (2, .int x2), (3, .int x3)]) hx hb dX7_passFor_31 hl (by decide) rfl (fun ls hl => ?_)
        refine lv_aload_n hx hb dX7_passFor_33 rfl (lv_at hl 2 rfl) ?_
        refine rg_X7_46 (k := (b0 + 12)) X hW hb0 rfl dX7_passFor_34 ?_
        refine lv_iload hx hb dX7_passFor_37 (lv_at hl 1 rfl) ?_
        refine lv_dup2_11 hx hb dX7_passFor_39 rfl rfl ?_
        obtain ⟨i40, h⟩ := lb_chk_in h
        refine lb_ild X hW (lb_Var12 hb0) i40 dX7_passFor_40 ?_
        refine lv_iconst (v := 1) hx hb dX7_passFor_41 rfl ?_
        refine lv_isub hx hb dX7_passFor_42 ?_
        obtain ⟨i43, h⟩ := lb_chk_in h
        refine lb_ist X hW (lb_Var12 hb0) i43 dX7_passFor_43 (fun H locs hW => ?_)
        obtain ⟨s43, e43⟩ : ∃ z, z = lb_sto σ (b0 + 12) q9.toNatClampNeg ((σ (b0 + 12) q9.toNatClampNeg) - (1 : Int32)) := ⟨_, rfl⟩
        rw [← e43] at hW
        have h := lb_letI e43 h
        exact w_X7_passFor_44 X hb0 ih x1 x2 x3 q28 s43 _ _ _ h hW (lv_sub hl [2, 3, 4, 5, 0] rfl)
def f_X7_passFor (b0 : Nat) (x1 : Int32) (x2 : Int32) (σ : lb_Mem) : Option lb_Mem := f_X7_passFor_2 b0 lb_N x1 x2 (0 : Int32) σ
set_option maxRecDepth 20000 in
set_option maxHeartbeats 4000000 in
theorem m_X7_passFor (l : Launch) (G : lb_G) (σ : lb_Mem) {b0 : Nat} (hb0 : lb_V b0) (x1 : Int32) (x2 : Int32) (qr : lb_Mem) (h : f_X7_passFor b0 x1 x2 σ = some qr) : lb_M l yX7_passFor cX7_passFor 6 none rmX7_passFor [.ref (lb_ad G b0), .int x1, .int x2] G σ (lb_QV G qr) := by
  refine lb_start RX7 (by decide +kernel) rfl (Nat.le_of_ble_eq_true rfl) (fun p e s m below meth c X hW ls hl => ?_)
  have hx := X.1
  have hb := X.2.1
  have hl : lv_has ls 6 [(0, .ref (lb_ad G b0)), (1, .int x1), (2, .int x2)] := hl
  have h : (f_X7_passFor_2 b0 lb_N x1 x2 (0 : Int32) σ) = some qr := h
  skip
  refine lv_iconst (v := 0) hx hb dX7_passFor_0 rfl ?_
  refine lv_istore_n (lv' := [(3, .int (0 : Int32)), (0, .ref (lb_ad G b0)), (1, .int x1), (2, .int x2)]) hx hb dX7_passFor_1 rfl hl (by decide) rfl (fun ls hl => ?_)
  exact w_X7_passFor_2 X hb0 lb_N x1 x2 (0 : Int32) σ _ _ _ h hW (lv_sub hl [1, 2, 3, 0] rfl)
theorem rc_X7_99 {p : Program} {l : Launch} {e : Env} {R : Room} {s : State} {m : MethodId} {args : Array Value} {below : List Frame} {meth : Method} {c : Code} {H : Heap} {locs : List Loc} {cells slots : Nat} {Q : State → Prop} {cc : ByteArray} {pc nL : Nat} {ls : Array Slot} {rest : List Value} {G : lb_G} {σ : lb_Mem} {ret : Option FieldType} (X : lb_C G p s m args meth c cc nL RX7 ret) (hW : lb_W G s σ H locs) {b0 : Nat} (hb0 : lb_V b0) {x1 : Int32} {x2 : Int32} {qr : lb_Mem} (h : f_X7_passFor b0 x1 x2 σ = some qr) (hR : lb_room rmX7_passFor R 6) (hls : ls.size = nL) (hrest : (rest.map fun v => v.category).sum ≤ 8) (d : decode cc pc = .ok (.invokevirtual 99, 3)) (hcap : cells ≤ R.cells ∧ slots ≤ R.slots) (kk : ∀ (H1 : Heap) (locs1 : List Loc), lb_W G s qr H1 locs1 → W p l e R s m args below meth c H1 locs1 cells slots Q (F0 m (pc + 3) ls rest)) : W p l e R s m args below meth c H locs cells slots Q (F0 m pc ls (.int x2 :: .int x1 :: .ref (lb_ad G b0) :: rest)) :=
  lb_goV hW (lb_runV (As := [.int x1, .int x2]) X hW (m_X7_passFor l G σ hb0 x1 x2 qr h) (n := 2) ⟨qw_403, qw_44, qw_406, by decide +kernel⟩ hR qw_404 qw_405 (lb_isV hb0) rfl hls hrest d hcap) kk
abbrev rmX7_pass : Room := { frames := 5, cells := 0, slots := 0, locals := 119 }
def f_X7_pass_2 (b0 : Nat) : Nat → Int32 → Int32 → lb_Mem → Option lb_Mem
  | 0, _, _, _ => none
  | n + 1, x1, x2, σ => if (σ b0 10) ≤ x2 then lb_let (lb_sto σ b0 11 ((σ b0 11) + x1)) (fun s29 : lb_Mem => some s29) else (f_X7_passFor b0 x2 x1 σ).bind (fun s13 => f_X7_pass_2 b0 n x1 (x2 + 1) s13)
set_option maxRecDepth 20000 in
set_option maxHeartbeats 4000000 in
theorem w_X7_pass_2 {p : Program} {l : Launch} {e : Env} {s : State} {m : MethodId} {args : Array Value} {below : List Frame} {meth : Method} {c : Code} {G : lb_G} {b0 : Nat} {qr : lb_Mem} (X : lb_C G p s m args meth c cX7_pass 3 RX7 none) (hb0 : lb_V b0) : ∀ (n : Nat) (x1 : Int32) (x2 : Int32) (σ : lb_Mem) (H : Heap) (locs : List Loc) (ls : Array Slot), f_X7_pass_2 b0 n x1 x2 σ = some qr → lb_W G s σ H locs → lv_has ls 3 [(0, .ref (lb_ad G b0)), (1, .int x1), (2, .int x2)] → W p l e rmX7_pass s m args below meth c H locs 0 0 (MQ below (lb_QV G qr) args s 0 0 (lb_A G)) (F0 m 2 ls []) := by
  have hx := X.1
  have hb := X.2.1
  intro n
  induction n with
  | zero => intro x1 x2 σ H locs ls h hW hl; exact absurd h (fun z => by cases z)
  | succ n ih =>
    intro x1 x2 σ H locs ls h hW hl
    have h : (if (σ b0 10) ≤ x2 then lb_let (lb_sto σ b0 11 ((σ b0 11) + x1)) (fun s29 : lb_Mem => some s29) else (f_X7_passFor b0 x2 x1 σ).bind (fun s13 => f_X7_pass_2 b0 n x1 (x2 + 1) s13)) = some qr := h
    refine lv_iload_n hx hb dX7_pass_2 rfl (lv_at hl 2 rfl) ?_
    refine lv_aload_n hx hb dX7_pass_3 rfl (lv_at hl 0 rfl) ?_
    refine rg_X7_62 X hW hb0 dX7_pass_4 ?_
    refine lv_icmp_ge (tgt := 22) hx hb dX7_pass_7 (by decide) (fun c7 => ?_) (fun c7 => ?_)
    · have h := (if_pos c7).symm.trans h
      refine lv_aload_n hx hb dX7_pass_22 rfl (lv_at hl 0 rfl) ?_
      refine lv_dup hx hb dX7_pass_23 rfl ?_
      refine rg_X7_65 X hW hb0 dX7_pass_24 ?_
      refine lv_iload_n hx hb dX7_pass_27 rfl (lv_at hl 1 rfl) ?_
      refine lv_iadd hx hb dX7_pass_28 ?_
      refine rp_X7_65 X hW hb0 dX7_pass_29 (fun H locs hW => ?_)
      obtain ⟨s29, e29⟩ : ∃ z, z = lb_sto σ b0 11 ((σ b0 11) + x1) := ⟨_, rfl⟩
      rw [← e29] at hW
      have h := lb_letI e29 h
      obtain rfl := Option.some.inj h
      exact lb_vret X hW dX7_pass_32
    · have h := (if_neg c7).symm.trans h
      refine lv_aload_n hx hb dX7_pass_10 rfl (lv_at hl 0 rfl) ?_
      refine lv_iload_n hx hb dX7_pass_11 rfl (lv_at hl 2 rfl) ?_
      refine lv_iload_n hx hb dX7_pass_12 rfl (lv_at hl 1 rfl) ?_
      obtain ⟨s13, e13, h⟩ := lb_bind h
      refine rc_X7_99 X hW hb0 e13 ⟨⟨rfl, rfl⟩, Nat.le_of_ble_eq_true rfl, Nat.le_of_ble_eq_true rfl⟩ hl.1 (Nat.le_of_ble_eq_true rfl) dX7_pass_13 ⟨Nat.zero_le _, Nat.zero_le _⟩ (fun H locs hW => ?_)
      refine lv_iinc (v := (x2 + 1)) (lv' := [(2, .int (x2 + 1)), (0, .ref (lb_ad G b0)), (1, .int x1)]) hx hb dX7_pass_16 hl (k := 2) rfl rfl (by decide) rfl (fun ls hl => ?_)
      refine lv_goto (tgt := 2) hx hb dX7_pass_19 (by decide) ?_
      exact ih x1 (x2 + 1) s13 _ _ _ h hW (lv_sub hl [1, 2, 0] rfl)
def f_X7_pass (b0 : Nat) (x1 : Int32) (σ : lb_Mem) : Option lb_Mem := f_X7_pass_2 b0 lb_N x1 (0 : Int32) σ
set_option maxRecDepth 20000 in
set_option maxHeartbeats 4000000 in
theorem m_X7_pass (l : Launch) (G : lb_G) (σ : lb_Mem) {b0 : Nat} (hb0 : lb_V b0) (x1 : Int32) (qr : lb_Mem) (h : f_X7_pass b0 x1 σ = some qr) : lb_M l yX7_pass cX7_pass 3 none rmX7_pass [.ref (lb_ad G b0), .int x1] G σ (lb_QV G qr) := by
  refine lb_start RX7 (by decide +kernel) rfl (Nat.le_of_ble_eq_true rfl) (fun p e s m below meth c X hW ls hl => ?_)
  have hx := X.1
  have hb := X.2.1
  have hl : lv_has ls 3 [(0, .ref (lb_ad G b0)), (1, .int x1)] := hl
  have h : (f_X7_pass_2 b0 lb_N x1 (0 : Int32) σ) = some qr := h
  skip
  refine lv_iconst (v := 0) hx hb dX7_pass_0 rfl ?_
  refine lv_istore_n (lv' := [(2, .int (0 : Int32)), (0, .ref (lb_ad G b0)), (1, .int x1)]) hx hb dX7_pass_1 rfl hl (by decide) rfl (fun ls hl => ?_)
  exact w_X7_pass_2 X hb0 lb_N x1 (0 : Int32) σ _ _ _ h hW (lv_sub hl [1, 2, 0] rfl)
