theorem rc_X9_149 {p : Program} {l : Launch} {e : Env} {R : Room} {s : State} {m : MethodId} {args : Array Value} {below : List Frame} {meth : Method} {c : Code} {H : Heap} {locs : List Loc} {cells slots : Nat} {Q : State → Prop} {cc : ByteArray} {pc nL : Nat} {ls : Array Slot} {rest : List Value} {G : lb_G} {σ : lb_Mem} {ret : Option FieldType} (X : lb_C G p s m args meth c cc nL RX9 ret) (hW : lb_W G s σ H locs) {x1 : Int32} {qr : (Int32 × lb_Mem)} (h : f_X9_graceNow x1 σ = some qr) (hR : lb_room rmX9_graceNow R 2) (hls : ls.size = nL) (hrest : (rest.map fun v => v.category).sum ≤ 8) (d : decode cc pc = .ok (.invokevirtual 149, 3)) (hcap : cells ≤ R.cells ∧ slots ≤ R.slots) (kk : ∀ (H1 : Heap) (locs1 : List Loc), lb_W G s qr.2 H1 locs1 → W p l e R s m args below meth c H1 locs1 cells slots Q (F0 m (pc + 3) ls (.int qr.1 :: rest))) : W p l e R s m args below meth c H locs cells slots Q (F0 m pc ls (.int x1 :: .ref (lb_ad G 53) :: rest)) :=
  lb_goI hW (lb_runV (As := [.int x1]) X hW (m_X9_graceNow l G σ x1 qr h) (n := 1) ⟨qw_989, qw_52, qw_992, by decide +kernel⟩ hR qw_991 qw_33 lb_is53 rfl hls hrest d hcap) kk
abbrev rmX9_audit : Room := { frames := 7, cells := 0, slots := 0, locals := 153 }
def f_X9_audit_96 (kc55 : Int32 → Int32 → Int32 → Int32 → lb_Mem → Option (Int32 × lb_Mem)) (x1 : Int32) (x2 : Int32) (x4 : Int32) (x5 : Int32) (σ : lb_Mem) (y1 : Int32) (y2 : Int32) : Option (Int32 × lb_Mem) := lb_chk (lb_ix y1 61) (lb_let (lb_sto σ 55 y1.toNatClampNeg y2) (fun s96 : lb_Mem => kc55 x1 x2 x4 (x5 + 1) s96))
set_option maxRecDepth 20000 in
set_option maxHeartbeats 4000000 in
theorem w_X9_audit_96 {p : Program} {l : Launch} {e : Env} {s : State} {m : MethodId} {args : Array Value} {below : List Frame} {meth : Method} {c : Code} {G : lb_G} {qr : (Int32 × lb_Mem)} (X : lb_C G p s m args meth c cX9_audit 6 RX9 (some .int)) {kc55 : Int32 → Int32 → Int32 → Int32 → lb_Mem → Option (Int32 × lb_Mem)} (hc55 : ∀ (x1 : Int32) (x2 : Int32) (x4 : Int32) (x5 : Int32) (σ : lb_Mem) (H : Heap) (locs : List Loc) (ls : Array Slot), kc55 x1 x2 x4 x5 σ = some qr → lb_W G s σ H locs → lv_has ls 6 [(0, .ref (lb_ad G 53)), (1, .int x1), (2, .int x2), (4, .int x4), (5, .int x5)] → W p l e rmX9_audit s m args below meth c H locs 0 0 (MQ below (lb_QI G qr.1 qr.2) args s 0 0 (lb_A G)) (F0 m 55 ls [])) : ∀ (x1 : Int32) (x2 : Int32) (x4 : Int32) (x5 : Int32) (σ : lb_Mem) (y1 : Int32) (y2 : Int32) (H : Heap) (locs : List Loc) (ls : Array Slot), f_X9_audit_96 kc55 x1 x2 x4 x5 σ y1 y2 = some qr → lb_W G s σ H locs → lv_has ls 6 [(0, .ref (lb_ad G 53)), (1, .int x1), (2, .int x2), (4, .int x4), (5, .int x5)] → W p l e rmX9_audit s m args below meth c H locs 0 0 (MQ below (lb_QI G qr.1 qr.2) args s 0 0 (lb_A G)) (F0 m 96 ls [.int y2, .int y1, .ref (lb_ad G 55)]) := by
  have hx := X.1
  have hb := X.2.1
  intro x1 x2 x4 x5 σ y1 y2 H locs ls h hW hl
  have h : (lb_chk (lb_ix y1 61) (lb_let (lb_sto σ 55 y1.toNatClampNeg y2) (fun s96 : lb_Mem => kc55 x1 x2 x4 (x5 + 1) s96))) = some qr := h
  obtain ⟨i96, h⟩ := lb_chk_in h
  refine lb_ist X hW (show lb_ar 55 = 60 + 1 from rfl) i96 dX9_audit_96 (fun H locs hW => ?_)
  obtain ⟨s96, e96⟩ : ∃ z, z = lb_sto σ 55 y1.toNatClampNeg y2 := ⟨_, rfl⟩
  rw [← e96] at hW
  have h := lb_letI e96 h
  refine lv_iinc (v := (x5 + 1)) (lv' := [(5, .int (x5 + 1)), (0, .ref (lb_ad G 53)), (1, .int x1), (2, .int x2), (4, .int x4)]) hx hb dX9_audit_97 hl (k := 4) rfl rfl (by decide) rfl (fun ls hl => ?_)
  refine lv_goto (tgt := 55) hx hb dX9_audit_100 (by decide) ?_
  exact hc55 x1 x2 x4 (x5 + 1) s96 _ _ _ h hW (lv_sub hl [1, 2, 3, 4, 0] rfl)
def f_X9_audit_55 : Nat → Int32 → Int32 → Int32 → Int32 → lb_Mem → Option (Int32 × lb_Mem)
  | 0, _, _, _, _, _ => none
  | n + 1, x1, x2, x4, x5, σ => if (σ 54 (0 : Int32).toNatClampNeg) ≤ x5 then (f_X9_yearsOn 55 x1 σ).bind (fun s108 => (f_X9_allGrace s108 55).bind (fun q115 => some ((q115 - x4), s108))) else if x2 = 0 then lb_chk (lb_ix (f_X9_ofT x5 (2 : Int32)) 61) (f_X9_audit_96 (fun (x1 : Int32) (x2 : Int32) (x4 : Int32) (x5 : Int32) (σ : lb_Mem) => f_X9_audit_55 n x1 x2 x4 x5 σ) x1 x2 x4 x5 σ (f_X9_ofT x5 (3 : Int32)) (σ 54 (f_X9_ofT x5 (2 : Int32)).toNatClampNeg)) else f_X9_audit_96 (fun (x1 : Int32) (x2 : Int32) (x4 : Int32) (x5 : Int32) (σ : lb_Mem) => f_X9_audit_55 n x1 x2 x4 x5 σ) x1 x2 x4 x5 σ (f_X9_ofT x5 (3 : Int32)) (6 : Int32)
set_option maxRecDepth 20000 in
set_option maxHeartbeats 4000000 in
theorem w_X9_audit_55 {p : Program} {l : Launch} {e : Env} {s : State} {m : MethodId} {args : Array Value} {below : List Frame} {meth : Method} {c : Code} {G : lb_G} {qr : (Int32 × lb_Mem)} (X : lb_C G p s m args meth c cX9_audit 6 RX9 (some .int)) : ∀ (n : Nat) (x1 : Int32) (x2 : Int32) (x4 : Int32) (x5 : Int32) (σ : lb_Mem) (H : Heap) (locs : List Loc) (ls : Array Slot), f_X9_audit_55 n x1 x2 x4 x5 σ = some qr → lb_W G s σ H locs → lv_has ls 6 [(0, .ref (lb_ad G 53)), (1, .int x1), (2, .int x2), (4, .int x4), (5, .int x5)] → W p l e rmX9_audit s m args below meth c H locs 0 0 (MQ below (lb_QI G qr.1 qr.2) args s 0 0 (lb_A G)) (F0 m 55 ls []) := by
  have hx := X.1
  have hb := X.2.1
  intro n
  induction n with
  | zero => intro x1 x2 x4 x5 σ H locs ls h hW hl; exact absurd h (fun z => by cases z)
  | succ n ih =>
    intro x1 x2 x4 x5 σ H locs ls h hW hl
    have h : (if (σ 54 (0 : Int32).toNatClampNeg) ≤ x5 then (f_X9_yearsOn 55 x1 σ).bind (fun s108 => (f_X9_allGrace s108 55).bind (fun q115 => some ((q115 - x4), s108))) else if x2 = 0 then lb_chk (lb_ix (f_X9_ofT x5 (2 : Int32)) 61) (f_X9_audit_96 (fun (x1 : Int32) (x2 : Int32) (x4 : Int32) (x5 : Int32) (σ : lb_Mem) => f_X9_audit_55 n x1 x2 x4 x5 σ) x1 x2 x4 x5 σ (f_X9_ofT x5 (3 : Int32)) (σ 54 (f_X9_ofT x5 (2 : Int32)).toNatClampNeg)) else f_X9_audit_96 (fun (x1 : Int32) (x2 : Int32) (x4 : Int32) (x5 : Int32) (σ : lb_Mem) => f_X9_audit_55 n x1 x2 x4 x5 σ) x1 x2 x4 x5 σ (f_X9_ofT x5 (3 : Int32)) (6 : Int32)) = some qr := h
    refine lv_iload hx hb dX9_audit_55 (lv_at hl 4 rfl) ?_
    refine lv_aload_n hx hb dX9_audit_57 rfl (lv_at hl 0 rfl) ?_
    refine rg_X9_9 X hW dX9_audit_58 ?_
    refine lv_iconst (v := 0) hx hb dX9_audit_61 rfl ?_
    refine lb_ild X hW (show lb_ar 54 = 60 + 1 from rfl) (lb_inC rfl) dX9_audit_62 ?_
    refine lv_icmp_ge (tgt := 103) hx hb dX9_audit_63 (by decide) (fun c63 => ?_) (fun c63 => ?_)
    · have h := (if_pos c63).symm.trans h
      refine lv_aload_n hx hb dX9_audit_103 rfl (lv_at hl 0 rfl) ?_
      refine rg_X9_13 X hW dX9_audit_104 ?_
      refine lv_iload_n hx hb dX9_audit_107 rfl (lv_at hl 1 rfl) ?_
      obtain ⟨s108, e108, h⟩ := lb_bind h
      refine rc_X9_105 X hW (show lb_ar 55 = 60 + 1 from rfl) e108 ⟨⟨rfl, rfl⟩, Nat.le_of_ble_eq_true rfl, Nat.le_of_ble_eq_true rfl⟩ hl.1 (Nat.le_of_ble_eq_true rfl) dX9_audit_108 ⟨Nat.zero_le _, Nat.zero_le _⟩ (fun H locs hW => ?_)
      refine lv_aload_n hx hb dX9_audit_111 rfl (lv_at hl 0 rfl) ?_
      refine rg_X9_13 X hW dX9_audit_112 ?_
      obtain ⟨q115, e115, h⟩ := lb_bind h
      refine rc_X9_129 X hW (show lb_ar 55 = 60 + 1 from rfl) e115 ⟨⟨rfl, rfl⟩, Nat.le_of_ble_eq_true rfl, Nat.le_of_ble_eq_true rfl⟩ hl.1 (Nat.le_of_ble_eq_true rfl) dX9_audit_115 ⟨Nat.zero_le _, Nat.zero_le _⟩ (fun H locs hW => ?_)
      refine lv_iload hx hb dX9_audit_118 (lv_at hl 3 rfl) ?_
      refine lv_isub hx hb dX9_audit_120 ?_
      obtain rfl := Option.some.inj h
      exact lb_iret X hW dX9_audit_121
    · have h := (if_neg c63).symm.trans h
      refine lv_aload_n hx hb dX9_audit_66 rfl (lv_at hl 0 rfl) ?_
      refine rg_X9_13 X hW dX9_audit_67 ?_
      refine lv_iload hx hb dX9_audit_70 (lv_at hl 4 rfl) ?_
      refine lv_iconst (v := 3) hx hb dX9_audit_72 rfl ?_
      refine rc_X9_45 X hW x5 (3 : Int32) ⟨⟨rfl, rfl⟩, Nat.le_of_ble_eq_true rfl, Nat.le_of_ble_eq_true rfl⟩ hl.1 (Nat.le_of_ble_eq_true rfl) dX9_audit_73 ⟨Nat.zero_le _, Nat.zero_le _⟩ (fun H locs hW => ?_)
      refine lv_iload_n hx hb dX9_audit_76 rfl (lv_at hl 2 rfl) ?_
      refine lv_if_ne (tgt := 94) hx hb dX9_audit_77 (by decide) (fun c77 => ?_) (fun c77 => ?_)
      · have h := (if_neg c77).symm.trans h
        refine lv_bipush (v := 6) hx hb dX9_audit_94 rfl ?_
        exact w_X9_audit_96 X ih x1 x2 x4 x5 σ (f_X9_ofT x5 (3 : Int32)) (6 : Int32) _ _ _ h hW (lv_sub hl [0, 1, 2, 3, 4] rfl)
      · have h := (if_pos c77).symm.trans h
        refine lv_aload_n hx hb dX9_audit_80 rfl (lv_at hl 0 rfl) ?_
        refine rg_X9_9 X hW dX9_audit_81 ?_
        refine lv_iload hx hb dX9_audit_84 (lv_at hl 4 rfl) ?_
        refine lv_iconst (v := 2) hx hb dX9_audit_86 rfl ?_
        refine rc_X9_45 X hW x5 (2 : Int32) ⟨⟨rfl, rfl⟩, Nat.le_of_ble_eq_true rfl, Nat.le_of_ble_eq_true rfl⟩ hl.1 (Nat.le_of_ble_eq_true rfl) dX9_audit_87 ⟨Nat.zero_le _, Nat.zero_le _⟩ (fun H locs hW => ?_)
        obtain ⟨i90, h⟩ := lb_chk_in h
        refine lb_ild X hW (show lb_ar 54 = 60 + 1 from rfl) i90 dX9_audit_90 ?_
        refine lv_goto (tgt := 96) hx hb dX9_audit_91 (by decide) ?_
        exact w_X9_audit_96 X ih x1 x2 x4 x5 σ (f_X9_ofT x5 (3 : Int32)) (σ 54 (f_X9_ofT x5 (2 : Int32)).toNatClampNeg) _ _ _ h hW (lv_sub hl [0, 1, 2, 3, 4] rfl)
def f_X9_audit_24 (x1 : Int32) (x2 : Int32) (x3 : Int32) (σ : lb_Mem) : Option (Int32 × lb_Mem) := if x3 = 0 then (f_X9_graceNow x1 σ).bind (fun q36 => (f_X9_copies 54 55 q36.2).bind (fun s49 => f_X9_audit_55 lb_N x1 x2 q36.1 (0 : Int32) s49)) else (f_X9_noFar x3 σ).bind (fun q30 => some (q30.1, q30.2))
set_option maxRecDepth 20000 in
set_option maxHeartbeats 4000000 in
theorem w_X9_audit_24 {p : Program} {l : Launch} {e : Env} {s : State} {m : MethodId} {args : Array Value} {below : List Frame} {meth : Method} {c : Code} {G : lb_G} {qr : (Int32 × lb_Mem)} (X : lb_C G p s m args meth c cX9_audit 6 RX9 (some .int)) : ∀ (x1 : Int32) (x2 : Int32) (x3 : Int32) (σ : lb_Mem) (H : Heap) (locs : List Loc) (ls : Array Slot), f_X9_audit_24 x1 x2 x3 σ = some qr → lb_W G s σ H locs → lv_has ls 6 [(0, .ref (lb_ad G 53)), (1, .int x1), (2, .int x2), (3, .int x3)] → W p l e rmX9_audit s m args below meth c H locs 0 0 (MQ below (lb_QI G qr.1 qr.2) args s 0 0 (lb_A G)) (F0 m 24 ls []) := by
  have hx := X.1
  have hb := X.2.1
  intro x1 x2 x3 σ H locs ls h hW hl
  have h : (if x3 = 0 then (f_X9_graceNow x1 σ).bind (fun q36 => (f_X9_copies 54 55 q36.2).bind (fun s49 => f_X9_audit_55 lb_N x1 x2 q36.1 (0 : Int32) s49)) else (f_X9_noFar x3 σ).bind (fun q30 => some (q30.1, q30.2))) = some qr := h
  refine lv_iload_n hx hb dX9_audit_24 rfl (lv_at hl 3 rfl) ?_
  refine lv_if_eq (tgt := 34) hx hb dX9_audit_25 (by decide) (fun c25 => ?_) (fun c25 => ?_)
  · have h := (if_pos c25).symm.trans h
    refine lv_aload_n hx hb dX9_audit_34 rfl (lv_at hl 0 rfl) ?_
    refine lv_iload_n hx hb dX9_audit_35 rfl (lv_at hl 1 rfl) ?_
    obtain ⟨q36, e36, h⟩ := lb_bind h
    refine rc_X9_149 X hW e36 ⟨⟨rfl, rfl⟩, Nat.le_of_ble_eq_true rfl, Nat.le_of_ble_eq_true rfl⟩ hl.1 (Nat.le_of_ble_eq_true rfl) dX9_audit_36 ⟨Nat.zero_le _, Nat.zero_le _⟩ (fun H locs hW => ?_)
    refine lv_istore (lv' := [(4, .int q36.1), (0, .ref (lb_ad G 53)), (1, .int x1), (2, .int x2), (3, .int x3)]) hx hb dX9_audit_39 hl (by decide) rfl (fun ls hl => ?_)
    refine lv_aload_n hx hb dX9_audit_41 rfl (lv_at hl 1 rfl) ?_
    refine rg_X9_9 X hW dX9_audit_42 ?_
    refine lv_aload_n hx hb dX9_audit_45 rfl (lv_at hl 1 rfl) ?_
    refine rg_X9_13 X hW dX9_audit_46 ?_
    obtain ⟨s49, e49, h⟩ := lb_bind h
    refine rc_X9_112 X hW (show lb_ar 54 = 60 + 1 from rfl) (show lb_ar 55 = 60 + 1 from rfl) e49 ⟨⟨rfl, rfl⟩, Nat.le_of_ble_eq_true rfl, Nat.le_of_ble_eq_true rfl⟩ hl.1 (Nat.le_of_ble_eq_true rfl) dX9_audit_49 ⟨Nat.zero_le _, Nat.zero_le _⟩ (fun H locs hW => ?_)
    refine lv_iconst (v := 0) hx hb dX9_audit_52 rfl ?_
    refine lv_istore (lv' := [(5, .int (0 : Int32)), (4, .int q36.1), (0, .ref (lb_ad G 53)), (1, .int x1), (2, .int x2), (3, .int x3)]) hx hb dX9_audit_53 hl (by decide) rfl (fun ls hl => ?_)
    exact w_X9_audit_55 X lb_N x1 x2 q36.1 (0 : Int32) s49 _ _ _ h hW (lv_sub hl [2, 3, 4, 1, 0] rfl)
  · have h := (if_neg c25).symm.trans h
    refine lv_aload_n hx hb dX9_audit_28 rfl (lv_at hl 0 rfl) ?_
    refine lv_iload_n hx hb dX9_audit_29 rfl (lv_at hl 3 rfl) ?_
    obtain ⟨q30, e30, h⟩ := lb_bind h
    refine rc_X9_122 X hW e30 ⟨⟨rfl, rfl⟩, Nat.le_of_ble_eq_true rfl, Nat.le_of_ble_eq_true rfl⟩ hl.1 (Nat.le_of_ble_eq_true rfl) dX9_audit_30 ⟨Nat.zero_le _, Nat.zero_le _⟩ (fun H locs hW => ?_)
    obtain rfl := Option.some.inj h
    exact lb_iret X hW dX9_audit_33
def f_X9_audit (x1 : Int32) (x2 : Int32) (σ : lb_Mem) : Option (Int32 × lb_Mem) := lb_let ((f_X9_wrongBy x1 (0 : Int32) (30 : Int32))) (fun v7 : Int32 => if v7 = 0 then if (f_X9_isIn x2 (0 : Int32) (1 : Int32)) = 0 then f_X9_audit_24 x1 x2 (-2 : Int32) σ else f_X9_audit_24 x1 x2 v7 σ else f_X9_audit_24 x1 x2 v7 σ)
set_option maxRecDepth 20000 in
set_option maxHeartbeats 4000000 in
theorem m_X9_audit (l : Launch) (G : lb_G) (σ : lb_Mem) (x1 : Int32) (x2 : Int32) (qr : (Int32 × lb_Mem)) (h : f_X9_audit x1 x2 σ = some qr) : lb_M l yX9_audit cX9_audit 6 (some .int) rmX9_audit [.ref (lb_ad G 53), .int x1, .int x2] G σ (lb_QI G qr.1 qr.2) := by
  refine lb_start RX9 (by decide +kernel) rfl (Nat.le_of_ble_eq_true rfl) (fun p e s m below meth c X hW ls hl => ?_)
  have hx := X.1
  have hb := X.2.1
  have hl : lv_has ls 6 [(0, .ref (lb_ad G 53)), (1, .int x1), (2, .int x2)] := hl
  have h : (lb_let ((f_X9_wrongBy x1 (0 : Int32) (30 : Int32))) (fun v7 : Int32 => if v7 = 0 then if (f_X9_isIn x2 (0 : Int32) (1 : Int32)) = 0 then f_X9_audit_24 x1 x2 (-2 : Int32) σ else f_X9_audit_24 x1 x2 v7 σ else f_X9_audit_24 x1 x2 v7 σ)) = some qr := h
  skip
  refine lv_iload_n hx hb dX9_audit_0 rfl (lv_at hl 1 rfl) ?_
  refine lv_iconst (v := 0) hx hb dX9_audit_1 rfl ?_
  refine lv_bipush (v := 30) hx hb dX9_audit_2 rfl ?_
  refine rc_X9_125 X hW x1 (0 : Int32) (30 : Int32) ⟨⟨rfl, rfl⟩, Nat.le_of_ble_eq_true rfl, Nat.le_of_ble_eq_true rfl⟩ hl.1 (Nat.le_of_ble_eq_true rfl) dX9_audit_4 ⟨Nat.zero_le _, Nat.zero_le _⟩ (fun H locs hW => ?_)
  refine lv_topi (fun v7 e7 => ?_)
  have h := lb_letI e7 h
  refine lv_istore_n (lv' := [(3, .int v7), (0, .ref (lb_ad G 53)), (1, .int x1), (2, .int x2)]) hx hb dX9_audit_7 rfl hl (by decide) rfl (fun ls hl => ?_)
  refine lv_iload_n hx hb dX9_audit_8 rfl (lv_at hl 0 rfl) ?_
  refine lv_if_ne (tgt := 24) hx hb dX9_audit_9 (by decide) (fun c9 => ?_) (fun c9 => ?_)
  · have h := (if_neg c9).symm.trans h
    exact w_X9_audit_24 X x1 x2 v7 σ _ _ _ h hW (lv_sub hl [1, 2, 3, 0] rfl)
  · have h := (if_pos c9).symm.trans h
    refine lv_iload_n hx hb dX9_audit_12 rfl (lv_at hl 3 rfl) ?_
    refine lv_iconst (v := 0) hx hb dX9_audit_13 rfl ?_
    refine lv_iconst (v := 1) hx hb dX9_audit_14 rfl ?_
    refine rc_X9_41 X hW x2 (0 : Int32) (1 : Int32) ⟨⟨rfl, rfl⟩, Nat.le_of_ble_eq_true rfl, Nat.le_of_ble_eq_true rfl⟩ hl.1 (Nat.le_of_ble_eq_true rfl) dX9_audit_15 ⟨Nat.zero_le _, Nat.zero_le _⟩ (fun H locs hW => ?_)
    refine lv_if_ne (tgt := 24) hx hb dX9_audit_18 (by decide) (fun c18 => ?_) (fun c18 => ?_)
    · have h := (if_neg c18).symm.trans h
      exact w_X9_audit_24 X x1 x2 v7 σ _ _ _ h hW (lv_sub hl [1, 2, 3, 0] rfl)
    · have h := (if_pos c18).symm.trans h
      refine lv_bipush (v := -2) hx hb dX9_audit_21 rfl ?_
      refine lv_istore_n (lv' := [(3, .int (-2 : Int32)), (0, .ref (lb_ad G 53)), (1, .int x1), (2, .int x2)]) hx hb dX9_audit_23 rfl hl (by decide) rfl (fun ls hl => ?_)
      exact w_X9_audit_24 X x1 x2 (-2 : Int32) σ _ _ _ h hW (lv_sub hl [1, 2, 3, 0] rfl)
abbrev rmX9_change : Room := { frames := 7, cells := 0, slots := 0, locals := 153 }
def f_X9_change_48 (kc31 : Int32 → Int32 → Int32 → Int32 → lb_Mem → Option (Int32 × lb_Mem)) : Nat → Int32 → Int32 → Int32 → Int32 → Int32 → lb_Mem → Option (Int32 × lb_Mem)
  | 0, _, _, _, _, _, _ => none
  | n + 1, x1, x3, x4, x5, x6, σ => if (σ 54 (0 : Int32).toNatClampNeg) ≤ x6 then kc31 x1 x3 x4 (x5 + 1) σ else (f_X9_copies 54 55 σ).bind (fun s67 => lb_chk (lb_ix (f_X9_ofT x6 (5 : Int32)) 61) (lb_chk (lb_ix (f_X9_ofT x5 (5 : Int32)) 61) (lb_let (lb_sto s67 55 (f_X9_ofT x5 (5 : Int32)).toNatClampNeg (s67 54 (f_X9_ofT x6 (5 : Int32)).toNatClampNeg)) (fun s91 : lb_Mem => lb_chk (lb_ix (f_X9_ofT x5 (5 : Int32)) 61) (lb_chk (lb_ix (f_X9_ofT x6 (5 : Int32)) 61) (lb_let (lb_sto s91 55 (f_X9_ofT x6 (5 : Int32)).toNatClampNeg (s91 54 (f_X9_ofT x5 (5 : Int32)).toNatClampNeg)) (fun s113 : lb_Mem => (f_X9_yearsOn 55 x1 s113).bind (fun s119 => lb_chk (lb_ix (f_X9_ofT x5 (5 : Int32)) 61) (lb_chk (lb_ix (f_X9_ofT x6 (5 : Int32)) 61) (if (s119 54 (f_X9_ofT x5 (5 : Int32)).toNatClampNeg) = (s119 54 (f_X9_ofT x6 (5 : Int32)).toNatClampNeg) then f_X9_change_48 kc31 n x1 x3 x4 x5 (x6 + 1) s119 else (f_X9_allGrace s119 55).bind (fun q151 => if x3 < q151 then lb_let ((((10 : Int32) * x5) + x6)) (fun v169 : Int32 => (f_X9_allGrace s119 55).bind (fun q175 => f_X9_change_48 kc31 n x1 q175 v169 x5 (x6 + 1) s119)) else f_X9_change_48 kc31 n x1 x3 x4 x5 (x6 + 1) s119)))))))))))
set_option maxRecDepth 20000 in
set_option maxHeartbeats 4000000 in
theorem w_X9_change_48 {p : Program} {l : Launch} {e : Env} {s : State} {m : MethodId} {args : Array Value} {below : List Frame} {meth : Method} {c : Code} {G : lb_G} {qr : (Int32 × lb_Mem)} (X : lb_C G p s m args meth c cX9_change 7 RX9 (some .int)) {kc31 : Int32 → Int32 → Int32 → Int32 → lb_Mem → Option (Int32 × lb_Mem)} (hc31 : ∀ (x1 : Int32) (x3 : Int32) (x4 : Int32) (x5 : Int32) (σ : lb_Mem) (H : Heap) (locs : List Loc) (ls : Array Slot), kc31 x1 x3 x4 x5 σ = some qr → lb_W G s σ H locs → lv_has ls 7 [(0, .ref (lb_ad G 53)), (1, .int x1), (3, .int x3), (4, .int x4), (5, .int x5)] → W p l e rmX9_change s m args below meth c H locs 0 0 (MQ below (lb_QI G qr.1 qr.2) args s 0 0 (lb_A G)) (F0 m 31 ls [])) : ∀ (n : Nat) (x1 : Int32) (x3 : Int32) (x4 : Int32) (x5 : Int32) (x6 : Int32) (σ : lb_Mem) (H : Heap) (locs : List Loc) (ls : Array Slot), f_X9_change_48 kc31 n x1 x3 x4 x5 x6 σ = some qr → lb_W G s σ H locs → lv_has ls 7 [(0, .ref (lb_ad G 53)), (1, .int x1), (3, .int x3), (4, .int x4), (5, .int x5), (6, .int x6)] → W p l e rmX9_change s m args below meth c H locs 0 0 (MQ below (lb_QI G qr.1 qr.2) args s 0 0 (lb_A G)) (F0 m 48 ls []) := by
  have hx := X.1
  have hb := X.2.1
  intro n
  induction n with
  | zero => intro x1 x3 x4 x5 x6 σ H locs ls h hW hl; exact absurd h (fun z => by cases z)
  | succ n ih =>
    intro x1 x3 x4 x5 x6 σ H locs ls h hW hl
    have h : (if (σ 54 (0 : Int32).toNatClampNeg) ≤ x6 then kc31 x1 x3 x4 (x5 + 1) σ else (f_X9_copies 54 55 σ).bind (fun s67 => lb_chk (lb_ix (f_X9_ofT x6 (5 : Int32)) 61) (lb_chk (lb_ix (f_X9_ofT x5 (5 : Int32)) 61) (lb_let (lb_sto s67 55 (f_X9_ofT x5 (5 : Int32)).toNatClampNeg (s67 54 (f_X9_ofT x6 (5 : Int32)).toNatClampNeg)) (fun s91 : lb_Mem => lb_chk (lb_ix (f_X9_ofT x5 (5 : Int32)) 61) (lb_chk (lb_ix (f_X9_ofT x6 (5 : Int32)) 61) (lb_let (lb_sto s91 55 (f_X9_ofT x6 (5 : Int32)).toNatClampNeg (s91 54 (f_X9_ofT x5 (5 : Int32)).toNatClampNeg)) (fun s113 : lb_Mem => (f_X9_yearsOn 55 x1 s113).bind (fun s119 => lb_chk (lb_ix (f_X9_ofT x5 (5 : Int32)) 61) (lb_chk (lb_ix (f_X9_ofT x6 (5 : Int32)) 61) (if (s119 54 (f_X9_ofT x5 (5 : Int32)).toNatClampNeg) = (s119 54 (f_X9_ofT x6 (5 : Int32)).toNatClampNeg) then f_X9_change_48 kc31 n x1 x3 x4 x5 (x6 + 1) s119 else (f_X9_allGrace s119 55).bind (fun q151 => if x3 < q151 then lb_let ((((10 : Int32) * x5) + x6)) (fun v169 : Int32 => (f_X9_allGrace s119 55).bind (fun q175 => f_X9_change_48 kc31 n x1 q175 v169 x5 (x6 + 1) s119)) else f_X9_change_48 kc31 n x1 x3 x4 x5 (x6 + 1) s119)))))))))))) = some qr := h
    refine lv_iload hx hb dX9_change_48 (lv_at hl 5 rfl) ?_
    refine lv_aload_n hx hb dX9_change_50 rfl (lv_at hl 0 rfl) ?_
    refine rg_X9_9 X hW dX9_change_51 ?_
    refine lv_iconst (v := 0) hx hb dX9_change_54 rfl ?_
    refine lb_ild X hW (show lb_ar 54 = 60 + 1 from rfl) (lb_inC rfl) dX9_change_55 ?_
    refine lv_icmp_ge (tgt := 185) hx hb dX9_change_56 (by decide) (fun c56 => ?_) (fun c56 => ?_)
    · have h := (if_pos c56).symm.trans h
      refine lv_iinc (v := (x5 + 1)) (lv' := [(5, .int (x5 + 1)), (0, .ref (lb_ad G 53)), (1, .int x1), (3, .int x3), (4, .int x4), (6, .int x6)]) hx hb dX9_change_185 hl (k := 4) rfl rfl (by decide) rfl (fun ls hl => ?_)
      refine lv_goto (tgt := 31) hx hb dX9_change_188 (by decide) ?_
      exact hc31 x1 x3 x4 (x5 + 1) σ _ _ _ h hW (lv_sub hl [1, 2, 3, 4, 0] rfl)
    · have h := (if_neg c56).symm.trans h
      refine lv_aload_n hx hb dX9_change_59 rfl (lv_at hl 0 rfl) ?_
      refine rg_X9_9 X hW dX9_change_60 ?_
      refine lv_aload_n hx hb dX9_change_63 rfl (lv_at hl 0 rfl) ?_
      refine rg_X9_13 X hW dX9_change_64 ?_
      obtain ⟨s67, e67, h⟩ := lb_bind h
      refine rc_X9_112 X hW (show lb_ar 54 = 60 + 1 from rfl) (show lb_ar 55 = 60 + 1 from rfl) e67 ⟨⟨rfl, rfl⟩, Nat.le_of_ble_eq_true rfl, Nat.le_of_ble_eq_true rfl⟩ hl.1 (Nat.le_of_ble_eq_true rfl) dX9_change_67 ⟨Nat.zero_le _, Nat.zero_le _⟩ (fun H locs hW => ?_)
      refine lv_aload_n hx hb dX9_change_70 rfl (lv_at hl 0 rfl) ?_
      refine rg_X9_13 X hW dX9_change_71 ?_
      refine lv_iload hx hb dX9_change_74 (lv_at hl 4 rfl) ?_
      refine lv_iconst (v := 5) hx hb dX9_change_76 rfl ?_
      refine rc_X9_45 X hW x5 (5 : Int32) ⟨⟨rfl, rfl⟩, Nat.le_of_ble_eq_true rfl, Nat.le_of_ble_eq_true rfl⟩ hl.1 (Nat.le_of_ble_eq_true rfl) dX9_change_77 ⟨Nat.zero_le _, Nat.zero_le _⟩ (fun H locs hW => ?_)
      refine lv_aload_n hx hb dX9_change_80 rfl (lv_at hl 0 rfl) ?_
      refine rg_X9_9 X hW dX9_change_81 ?_
      refine lv_iload hx hb dX9_change_84 (lv_at hl 5 rfl) ?_
      refine lv_iconst (v := 5) hx hb dX9_change_86 rfl ?_
      refine rc_X9_45 X hW x6 (5 : Int32) ⟨⟨rfl, rfl⟩, Nat.le_of_ble_eq_true rfl, Nat.le_of_ble_eq_true rfl⟩ hl.1 (Nat.le_of_ble_eq_true rfl) dX9_change_87 ⟨Nat.zero_le _, Nat.zero_le _⟩ (fun H locs hW => ?_)
      obtain ⟨i90, h⟩ := lb_chk_in h
      refine lb_ild X hW (show lb_ar 54 = 60 + 1 from rfl) i90 dX9_change_90 ?_
      obtain ⟨i91, h⟩ := lb_chk_in h
      refine lb_ist X hW (show lb_ar 55 = 60 + 1 from rfl) i91 dX9_change_91 (fun H locs hW => ?_)
      obtain ⟨s91, e91⟩ : ∃ z, z = lb_sto s67 55 (f_X9_ofT x5 (5 : Int32)).toNatClampNeg (s67 54 (f_X9_ofT x6 (5 : Int32)).toNatClampNeg) := ⟨_, rfl⟩
      rw [← e91] at hW
      have h := lb_letI e91 h
      refine lv_aload_n hx hb dX9_change_92 rfl (lv_at hl 0 rfl) ?_
      refine rg_X9_13 X hW dX9_change_93 ?_
      refine lv_iload hx hb dX9_change_96 (lv_at hl 5 rfl) ?_
      refine lv_iconst (v := 5) hx hb dX9_change_98 rfl ?_
      refine rc_X9_45 X hW x6 (5 : Int32) ⟨⟨rfl, rfl⟩, Nat.le_of_ble_eq_true rfl, Nat.le_of_ble_eq_true rfl⟩ hl.1 (Nat.le_of_ble_eq_true rfl) dX9_change_99 ⟨Nat.zero_le _, Nat.zero_le _⟩ (fun H locs hW => ?_)
      refine lv_aload_n hx hb dX9_change_102 rfl (lv_at hl 0 rfl) ?_
      refine rg_X9_9 X hW dX9_change_103 ?_
      refine lv_iload hx hb dX9_change_106 (lv_at hl 4 rfl) ?_
      refine lv_iconst (v := 5) hx hb dX9_change_108 rfl ?_
      refine rc_X9_45 X hW x5 (5 : Int32) ⟨⟨rfl, rfl⟩, Nat.le_of_ble_eq_true rfl, Nat.le_of_ble_eq_true rfl⟩ hl.1 (Nat.le_of_ble_eq_true rfl) dX9_change_109 ⟨Nat.zero_le _, Nat.zero_le _⟩ (fun H locs hW => ?_)
      obtain ⟨i112, h⟩ := lb_chk_in h
      refine lb_ild X hW (show lb_ar 54 = 60 + 1 from rfl) i112 dX9_change_112 ?_
      obtain ⟨i113, h⟩ := lb_chk_in h
      refine lb_ist X hW (show lb_ar 55 = 60 + 1 from rfl) i113 dX9_change_113 (fun H locs hW => ?_)
      obtain ⟨s113, e113⟩ : ∃ z, z = lb_sto s91 55 (f_X9_ofT x6 (5 : Int32)).toNatClampNeg (s91 54 (f_X9_ofT x5 (5 : Int32)).toNatClampNeg) := ⟨_, rfl⟩
      rw [← e113] at hW
      have h := lb_letI e113 h
      refine lv_aload_n hx hb dX9_change_114 rfl (lv_at hl 0 rfl) ?_
      refine rg_X9_13 X hW dX9_change_115 ?_
      refine lv_iload_n hx hb dX9_change_118 rfl (lv_at hl 1 rfl) ?_
      obtain ⟨s119, e119, h⟩ := lb_bind h
      refine rc_X9_105 X hW (show lb_ar 55 = 60 + 1 from rfl) e119 ⟨⟨rfl, rfl⟩, Nat.le_of_ble_eq_true rfl, Nat.le_of_ble_eq_true rfl⟩ hl.1 (Nat.le_of_ble_eq_true rfl) dX9_change_119 ⟨Nat.zero_le _, Nat.zero_le _⟩ (fun H locs hW => ?_)
      refine lv_aload_n hx hb dX9_change_122 rfl (lv_at hl 0 rfl) ?_
      refine rg_X9_9 X hW dX9_change_123 ?_
      refine lv_iload hx hb dX9_change_126 (lv_at hl 4 rfl) ?_
      refine lv_iconst (v := 5) hx hb dX9_change_128 rfl ?_
      refine rc_X9_45 X hW x5 (5 : Int32) ⟨⟨rfl, rfl⟩, Nat.le_of_ble_eq_true rfl, Nat.le_of_ble_eq_true rfl⟩ hl.1 (Nat.le_of_ble_eq_true rfl) dX9_change_129 ⟨Nat.zero_le _, Nat.zero_le _⟩ (fun H locs hW => ?_)
      obtain ⟨i132, h⟩ := lb_chk_in h
      refine lb_ild X hW (show lb_ar 54 = 60 + 1 from rfl) i132 dX9_change_132 ?_
      refine lv_aload_n hx hb dX9_change_133 rfl (lv_at hl 0 rfl) ?_
      refine rg_X9_9 X hW dX9_change_134 ?_
      refine lv_iload hx hb dX9_change_137 (lv_at hl 5 rfl) ?_
      refine lv_iconst (v := 5) hx hb dX9_change_139 rfl ?_
      refine rc_X9_45 X hW x6 (5 : Int32) ⟨⟨rfl, rfl⟩, Nat.le_of_ble_eq_true rfl, Nat.le_of_ble_eq_true rfl⟩ hl.1 (Nat.le_of_ble_eq_true rfl) dX9_change_140 ⟨Nat.zero_le _, Nat.zero_le _⟩ (fun H locs hW => ?_)
      obtain ⟨i143, h⟩ := lb_chk_in h
      refine lb_ild X hW (show lb_ar 54 = 60 + 1 from rfl) i143 dX9_change_143 ?_
      refine lv_icmp_eq (tgt := 179) hx hb dX9_change_144 (by decide) (fun c144 => ?_) (fun c144 => ?_)
      · have h := (if_pos c144).symm.trans h
        refine lv_iinc (v := (x6 + 1)) (lv' := [(6, .int (x6 + 1)), (0, .ref (lb_ad G 53)), (1, .int x1), (3, .int x3), (4, .int x4), (5, .int x5)]) hx hb dX9_change_179 hl (k := 5) rfl rfl (by decide) rfl (fun ls hl => ?_)
        refine lv_goto (tgt := 48) hx hb dX9_change_182 (by decide) ?_
        exact ih x1 x3 x4 x5 (x6 + 1) s119 _ _ _ h hW (lv_sub hl [1, 2, 3, 4, 5, 0] rfl)
      · have h := (if_neg c144).symm.trans h
        refine lv_aload_n hx hb dX9_change_147 rfl (lv_at hl 0 rfl) ?_
        refine rg_X9_13 X hW dX9_change_148 ?_
        obtain ⟨q151, e151, h⟩ := lb_bind h
        refine rc_X9_129 X hW (show lb_ar 55 = 60 + 1 from rfl) e151 ⟨⟨rfl, rfl⟩, Nat.le_of_ble_eq_true rfl, Nat.le_of_ble_eq_true rfl⟩ hl.1 (Nat.le_of_ble_eq_true rfl) dX9_change_151 ⟨Nat.zero_le _, Nat.zero_le _⟩ (fun H locs hW => ?_)
        refine lv_iload_n hx hb dX9_change_154 rfl (lv_at hl 2 rfl) ?_
        refine lv_icmp_gt (tgt := 161) hx hb dX9_change_155 (by decide) (fun c155 => ?_) (fun c155 => ?_)
        · have h := (if_pos c155).symm.trans h
          refine lv_bipush (v := 10) hx hb dX9_change_161 rfl ?_
          refine lv_iload hx hb dX9_change_163 (lv_at hl 4 rfl) ?_
          refine lv_imul hx hb dX9_change_165 ?_
          refine lv_iload hx hb dX9_change_166 (lv_at hl 5 rfl) ?_
          refine lv_iadd hx hb dX9_change_168 ?_
          refine lv_topi (fun v169 e169 => ?_)
          have h := lb_letI e169 h
          refine lv_istore (lv' := [(4, .int v169), (0, .ref (lb_ad G 53)), (1, .int x1), (3, .int x3), (5, .int x5), (6, .int x6)]) hx hb dX9_change_169 hl (by decide) rfl (fun ls hl => ?_)
          refine lv_aload_n hx hb dX9_change_171 rfl (lv_at hl 1 rfl) ?_
          refine rg_X9_13 X hW dX9_change_172 ?_
          obtain ⟨q175, e175, h⟩ := lb_bind h
          refine rc_X9_129 X hW (show lb_ar 55 = 60 + 1 from rfl) e175 ⟨⟨rfl, rfl⟩, Nat.le_of_ble_eq_true rfl, Nat.le_of_ble_eq_true rfl⟩ hl.1 (Nat.le_of_ble_eq_true rfl) dX9_change_175 ⟨Nat.zero_le _, Nat.zero_le _⟩ (fun H locs hW => ?_)
          refine lv_istore_n (lv' := [(3, .int q175), (4, .int v169), (0, .ref (lb_ad G 53)), (1, .int x1), (5, .int x5), (6, .int x6)]) hx hb dX9_change_178 rfl hl (by decide) rfl (fun ls hl => ?_)
          refine lv_iinc (v := (x6 + 1)) (lv' := [(6, .int (x6 + 1)), (3, .int q175), (4, .int v169), (0, .ref (lb_ad G 53)), (1, .int x1), (5, .int x5)]) hx hb dX9_change_179 hl (k := 5) rfl rfl (by decide) rfl (fun ls hl => ?_)
          refine lv_goto (tgt := 48) hx hb dX9_change_182 (by decide) ?_
          exact ih x1 q175 v169 x5 (x6 + 1) s119 _ _ _ h hW (lv_sub hl [3, 4, 1, 2, 5, 0] rfl)
        · have h := (if_neg c155).symm.trans h
          refine lv_goto (tgt := 179) hx hb dX9_change_158 (by decide) ?_
          refine lv_iinc (v := (x6 + 1)) (lv' := [(6, .int (x6 + 1)), (0, .ref (lb_ad G 53)), (1, .int x1), (3, .int x3), (4, .int x4), (5, .int x5)]) hx hb dX9_change_179 hl (k := 5) rfl rfl (by decide) rfl (fun ls hl => ?_)
          refine lv_goto (tgt := 48) hx hb dX9_change_182 (by decide) ?_
          exact ih x1 x3 x4 x5 (x6 + 1) s119 _ _ _ h hW (lv_sub hl [1, 2, 3, 4, 5, 0] rfl)
def f_X9_change_31 : Nat → Int32 → Int32 → Int32 → Int32 → lb_Mem → Option (Int32 × lb_Mem)
  | 0, _, _, _, _, _ => none
  | n + 1, x1, x3, x4, x5, σ => if (σ 54 (0 : Int32).toNatClampNeg) ≤ x5 then some (x4, σ) else lb_let ((x5 + (1 : Int32))) (fun v46 : Int32 => f_X9_change_48 (fun (x1 : Int32) (x3 : Int32) (x4 : Int32) (x5 : Int32) (σ : lb_Mem) => f_X9_change_31 n x1 x3 x4 x5 σ) lb_N x1 x3 x4 x5 v46 σ)
set_option maxRecDepth 20000 in
set_option maxHeartbeats 4000000 in
theorem w_X9_change_31 {p : Program} {l : Launch} {e : Env} {s : State} {m : MethodId} {args : Array Value} {below : List Frame} {meth : Method} {c : Code} {G : lb_G} {qr : (Int32 × lb_Mem)} (X : lb_C G p s m args meth c cX9_change 7 RX9 (some .int)) : ∀ (n : Nat) (x1 : Int32) (x3 : Int32) (x4 : Int32) (x5 : Int32) (σ : lb_Mem) (H : Heap) (locs : List Loc) (ls : Array Slot), f_X9_change_31 n x1 x3 x4 x5 σ = some qr → lb_W G s σ H locs → lv_has ls 7 [(0, .ref (lb_ad G 53)), (1, .int x1), (3, .int x3), (4, .int x4), (5, .int x5)] → W p l e rmX9_change s m args below meth c H locs 0 0 (MQ below (lb_QI G qr.1 qr.2) args s 0 0 (lb_A G)) (F0 m 31 ls []) := by
  have hx := X.1
  have hb := X.2.1
  intro n
  induction n with
  | zero => intro x1 x3 x4 x5 σ H locs ls h hW hl; exact absurd h (fun z => by cases z)
  | succ n ih =>
    intro x1 x3 x4 x5 σ H locs ls h hW hl
    have h : (if (σ 54 (0 : Int32).toNatClampNeg) ≤ x5 then some (x4, σ) else lb_let ((x5 + (1 : Int32))) (fun v46 : Int32 => f_X9_change_48 (fun (x1 : Int32) (x3 : Int32) (x4 : Int32) (x5 : Int32) (σ : lb_Mem) => f_X9_change_31 n x1 x3 x4 x5 σ) lb_N x1 x3 x4 x5 v46 σ)) = some qr := h
    refine lv_iload hx hb dX9_change_31 (lv_at hl 4 rfl) ?_
    refine lv_aload_n hx hb dX9_change_33 rfl (lv_at hl 0 rfl) ?_
    refine rg_X9_9 X hW dX9_change_34 ?_
    refine lv_iconst (v := 0) hx hb dX9_change_37 rfl ?_
    refine lb_ild X hW (show lb_ar 54 = 60 + 1 from rfl) (lb_inC rfl) dX9_change_38 ?_
    refine lv_icmp_ge (tgt := 191) hx hb dX9_change_39 (by decide) (fun c39 => ?_) (fun c39 => ?_)
    · have h := (if_pos c39).symm.trans h
      refine lv_iload hx hb dX9_change_191 (lv_at hl 3 rfl) ?_
      obtain rfl := Option.some.inj h
      exact lb_iret X hW dX9_change_193
    · have h := (if_neg c39).symm.trans h
      refine lv_iload hx hb dX9_change_42 (lv_at hl 4 rfl) ?_
      refine lv_iconst (v := 1) hx hb dX9_change_44 rfl ?_
      refine lv_iadd hx hb dX9_change_45 ?_
      refine lv_topi (fun v46 e46 => ?_)
      have h := lb_letI e46 h
      refine lv_istore (lv' := [(6, .int v46), (0, .ref (lb_ad G 53)), (1, .int x1), (3, .int x3), (4, .int x4), (5, .int x5)]) hx hb dX9_change_46 hl (by decide) rfl (fun ls hl => ?_)
      exact w_X9_change_48 X ih lb_N x1 x3 x4 x5 v46 σ _ _ _ h hW (lv_sub hl [1, 2, 3, 4, 5, 0] rfl)
def f_X9_change (x1 : Int32) (σ : lb_Mem) : Option (Int32 × lb_Mem) := lb_let ((f_X9_wrongBy x1 (0 : Int32) (20 : Int32))) (fun v7 : Int32 => if v7 = 0 then (f_X9_graceNow x1 σ).bind (fun q20 => f_X9_change_31 lb_N x1 q20.1 (-9 : Int32) (0 : Int32) q20.2) else (f_X9_no v7 σ).bind (fun q14 => some (q14.1, q14.2)))
set_option maxRecDepth 20000 in
set_option maxHeartbeats 4000000 in
theorem m_X9_change (l : Launch) (G : lb_G) (σ : lb_Mem) (x1 : Int32) (qr : (Int32 × lb_Mem)) (h : f_X9_change x1 σ = some qr) : lb_M l yX9_change cX9_change 7 (some .int) rmX9_change [.ref (lb_ad G 53), .int x1] G σ (lb_QI G qr.1 qr.2) := by
  refine lb_start RX9 (by decide +kernel) rfl (Nat.le_of_ble_eq_true rfl) (fun p e s m below meth c X hW ls hl => ?_)
  have hx := X.1
  have hb := X.2.1
  have hl : lv_has ls 7 [(0, .ref (lb_ad G 53)), (1, .int x1)] := hl
  have h : (lb_let ((f_X9_wrongBy x1 (0 : Int32) (20 : Int32))) (fun v7 : Int32 => if v7 = 0 then (f_X9_graceNow x1 σ).bind (fun q20 => f_X9_change_31 lb_N x1 q20.1 (-9 : Int32) (0 : Int32) q20.2) else (f_X9_no v7 σ).bind (fun q14 => some (q14.1, q14.2)))) = some qr := h
  skip
  refine lv_iload_n hx hb dX9_change_0 rfl (lv_at hl 1 rfl) ?_
  refine lv_iconst (v := 0) hx hb dX9_change_1 rfl ?_
  refine lv_bipush (v := 20) hx hb dX9_change_2 rfl ?_
  refine rc_X9_125 X hW x1 (0 : Int32) (20 : Int32) ⟨⟨rfl, rfl⟩, Nat.le_of_ble_eq_true rfl, Nat.le_of_ble_eq_true rfl⟩ hl.1 (Nat.le_of_ble_eq_true rfl) dX9_change_4 ⟨Nat.zero_le _, Nat.zero_le _⟩ (fun H locs hW => ?_)
  refine lv_topi (fun v7 e7 => ?_)
  have h := lb_letI e7 h
  refine lv_istore_n (lv' := [(2, .int v7), (0, .ref (lb_ad G 53)), (1, .int x1)]) hx hb dX9_change_7 rfl hl (by decide) rfl (fun ls hl => ?_)
  refine lv_iload_n hx hb dX9_change_8 rfl (lv_at hl 0 rfl) ?_
  refine lv_if_eq (tgt := 18) hx hb dX9_change_9 (by decide) (fun c9 => ?_) (fun c9 => ?_)
  · have h := (if_pos c9).symm.trans h
    refine lv_aload_n hx hb dX9_change_18 rfl (lv_at hl 1 rfl) ?_
    refine lv_iload_n hx hb dX9_change_19 rfl (lv_at hl 2 rfl) ?_
    obtain ⟨q20, e20, h⟩ := lb_bind h
    refine rc_X9_149 X hW e20 ⟨⟨rfl, rfl⟩, Nat.le_of_ble_eq_true rfl, Nat.le_of_ble_eq_true rfl⟩ hl.1 (Nat.le_of_ble_eq_true rfl) dX9_change_20 ⟨Nat.zero_le _, Nat.zero_le _⟩ (fun H locs hW => ?_)
    refine lv_istore_n (lv' := [(3, .int q20.1), (2, .int v7), (0, .ref (lb_ad G 53)), (1, .int x1)]) hx hb dX9_change_23 rfl hl (by decide) rfl (fun ls hl => ?_)
    refine lv_bipush (v := -9) hx hb dX9_change_24 rfl ?_
    refine lv_istore (lv' := [(4, .int (-9 : Int32)), (3, .int q20.1), (2, .int v7), (0, .ref (lb_ad G 53)), (1, .int x1)]) hx hb dX9_change_26 hl (by decide) rfl (fun ls hl => ?_)
    refine lv_iconst (v := 0) hx hb dX9_change_28 rfl ?_
    refine lv_istore (lv' := [(5, .int (0 : Int32)), (4, .int (-9 : Int32)), (3, .int q20.1), (2, .int v7), (0, .ref (lb_ad G 53)), (1, .int x1)]) hx hb dX9_change_29 hl (by decide) rfl (fun ls hl => ?_)
    exact w_X9_change_31 X lb_N x1 q20.1 (-9 : Int32) (0 : Int32) q20.2 _ _ _ h hW (lv_sub hl [4, 5, 2, 1, 0] rfl)
  · have h := (if_neg c9).symm.trans h
    refine lv_aload_n hx hb dX9_change_12 rfl (lv_at hl 1 rfl) ?_
    refine lv_iload_n hx hb dX9_change_13 rfl (lv_at hl 0 rfl) ?_
    obtain ⟨q14, e14, h⟩ := lb_bind h
    refine rc_X9_35 X hW e14 ⟨⟨rfl, rfl⟩, Nat.le_of_ble_eq_true rfl, Nat.le_of_ble_eq_true rfl⟩ hl.1 (Nat.le_of_ble_eq_true rfl) dX9_change_14 ⟨Nat.zero_le _, Nat.zero_le _⟩ (fun H locs hW => ?_)
    obtain rfl := Option.some.inj h
    exact lb_iret X hW dX9_change_17
abbrev rmX9_graceGiven : Room := { frames := 5, cells := 0, slots := 0, locals := 111 }
def f_X9_graceGiven (x1 : Int32) (x2 : Int32) (x3 : Int32) (σ : lb_Mem) : Option (Int32 × lb_Mem) := (f_X9_copies 54 55 σ).bind (fun s8 => lb_chk (lb_ix (f_X9_ofT x1 (5 : Int32)) 61) (lb_let (lb_sto s8 55 (f_X9_ofT x1 (5 : Int32)).toNatClampNeg x2) (fun s21 : lb_Mem => (f_X9_yearsOn 55 x3 s21).bind (fun s27 => (f_X9_allGrace s27 55).bind (fun q34 => some (q34, s27))))))
set_option maxRecDepth 20000 in
set_option maxHeartbeats 4000000 in
theorem m_X9_graceGiven (l : Launch) (G : lb_G) (σ : lb_Mem) (x1 : Int32) (x2 : Int32) (x3 : Int32) (qr : (Int32 × lb_Mem)) (h : f_X9_graceGiven x1 x2 x3 σ = some qr) : lb_M l yX9_graceGiven cX9_graceGiven 4 (some .int) rmX9_graceGiven [.ref (lb_ad G 53), .int x1, .int x2, .int x3] G σ (lb_QI G qr.1 qr.2) := by
  refine lb_start RX9 (by decide +kernel) rfl (Nat.le_of_ble_eq_true rfl) (fun p e s m below meth c X hW ls hl => ?_)
  have hx := X.1
  have hb := X.2.1
  have hl : lv_has ls 4 [(0, .ref (lb_ad G 53)), (1, .int x1), (2, .int x2), (3, .int x3)] := hl
  have h : ((f_X9_copies 54 55 σ).bind (fun s8 => lb_chk (lb_ix (f_X9_ofT x1 (5 : Int32)) 61) (lb_let (lb_sto s8 55 (f_X9_ofT x1 (5 : Int32)).toNatClampNeg x2) (fun s21 : lb_Mem => (f_X9_yearsOn 55 x3 s21).bind (fun s27 => (f_X9_allGrace s27 55).bind (fun q34 => some (q34, s27))))))) = some qr := h
  skip
  refine lv_aload_n hx hb dX9_graceGiven_0 rfl (lv_at hl 0 rfl) ?_
  refine rg_X9_9 X hW dX9_graceGiven_1 ?_
  refine lv_aload_n hx hb dX9_graceGiven_4 rfl (lv_at hl 0 rfl) ?_
  refine rg_X9_13 X hW dX9_graceGiven_5 ?_
  obtain ⟨s8, e8, h⟩ := lb_bind h
  refine rc_X9_112 X hW (show lb_ar 54 = 60 + 1 from rfl) (show lb_ar 55 = 60 + 1 from rfl) e8 ⟨⟨rfl, rfl⟩, Nat.le_of_ble_eq_true rfl, Nat.le_of_ble_eq_true rfl⟩ hl.1 (Nat.le_of_ble_eq_true rfl) dX9_graceGiven_8 ⟨Nat.zero_le _, Nat.zero_le _⟩ (fun H locs hW => ?_)
  refine lv_aload_n hx hb dX9_graceGiven_11 rfl (lv_at hl 0 rfl) ?_
  refine rg_X9_13 X hW dX9_graceGiven_12 ?_
  refine lv_iload_n hx hb dX9_graceGiven_15 rfl (lv_at hl 1 rfl) ?_
  refine lv_iconst (v := 5) hx hb dX9_graceGiven_16 rfl ?_
  refine rc_X9_45 X hW x1 (5 : Int32) ⟨⟨rfl, rfl⟩, Nat.le_of_ble_eq_true rfl, Nat.le_of_ble_eq_true rfl⟩ hl.1 (Nat.le_of_ble_eq_true rfl) dX9_graceGiven_17 ⟨Nat.zero_le _, Nat.zero_le _⟩ (fun H locs hW => ?_)
  refine lv_iload_n hx hb dX9_graceGiven_20 rfl (lv_at hl 2 rfl) ?_
  obtain ⟨i21, h⟩ := lb_chk_in h
  refine lb_ist X hW (show lb_ar 55 = 60 + 1 from rfl) i21 dX9_graceGiven_21 (fun H locs hW => ?_)
  obtain ⟨s21, e21⟩ : ∃ z, z = lb_sto s8 55 (f_X9_ofT x1 (5 : Int32)).toNatClampNeg x2 := ⟨_, rfl⟩
  rw [← e21] at hW
  have h := lb_letI e21 h
  refine lv_aload_n hx hb dX9_graceGiven_22 rfl (lv_at hl 0 rfl) ?_
  refine rg_X9_13 X hW dX9_graceGiven_23 ?_
  refine lv_iload_n hx hb dX9_graceGiven_26 rfl (lv_at hl 3 rfl) ?_
  obtain ⟨s27, e27, h⟩ := lb_bind h
  refine rc_X9_105 X hW (show lb_ar 55 = 60 + 1 from rfl) e27 ⟨⟨rfl, rfl⟩, Nat.le_of_ble_eq_true rfl, Nat.le_of_ble_eq_true rfl⟩ hl.1 (Nat.le_of_ble_eq_true rfl) dX9_graceGiven_27 ⟨Nat.zero_le _, Nat.zero_le _⟩ (fun H locs hW => ?_)
  refine lv_aload_n hx hb dX9_graceGiven_30 rfl (lv_at hl 0 rfl) ?_
  refine rg_X9_13 X hW dX9_graceGiven_31 ?_
  obtain ⟨q34, e34, h⟩ := lb_bind h
  refine rc_X9_129 X hW (show lb_ar 55 = 60 + 1 from rfl) e34 ⟨⟨rfl, rfl⟩, Nat.le_of_ble_eq_true rfl, Nat.le_of_ble_eq_true rfl⟩ hl.1 (Nat.le_of_ble_eq_true rfl) dX9_graceGiven_34 ⟨Nat.zero_le _, Nat.zero_le _⟩ (fun H locs hW => ?_)
  obtain rfl := Option.some.inj h
  exact lb_iret X hW dX9_graceGiven_37
theorem rc_X9_152 {p : Program} {l : Launch} {e : Env} {R : Room} {s : State} {m : MethodId} {args : Array Value} {below : List Frame} {meth : Method} {c : Code} {H : Heap} {locs : List Loc} {cells slots : Nat} {Q : State → Prop} {cc : ByteArray} {pc nL : Nat} {ls : Array Slot} {rest : List Value} {G : lb_G} {σ : lb_Mem} {ret : Option FieldType} (X : lb_C G p s m args meth c cc nL RX9 ret) (hW : lb_W G s σ H locs) {x1 : Int32} {x2 : Int32} {x3 : Int32} {qr : (Int32 × lb_Mem)} (h : f_X9_graceGiven x1 x2 x3 σ = some qr) (hR : lb_room rmX9_graceGiven R 4) (hls : ls.size = nL) (hrest : (rest.map fun v => v.category).sum ≤ 8) (d : decode cc pc = .ok (.invokevirtual 152, 3)) (hcap : cells ≤ R.cells ∧ slots ≤ R.slots) (kk : ∀ (H1 : Heap) (locs1 : List Loc), lb_W G s qr.2 H1 locs1 → W p l e R s m args below meth c H1 locs1 cells slots Q (F0 m (pc + 3) ls (.int qr.1 :: rest))) : W p l e R s m args below meth c H locs cells slots Q (F0 m pc ls (.int x3 :: .int x2 :: .int x1 :: .ref (lb_ad G 53) :: rest)) :=
  lb_goI hW (lb_runV (As := [.int x1, .int x2, .int x3]) X hW (m_X9_graceGiven l G σ x1 x2 x3 qr h) (n := 3) ⟨qw_1001, qw_52, qw_1004, by decide +kernel⟩ hR qw_1003 qw_34 lb_is53 rfl hls hrest d hcap) kk
abbrev rmX9_gift : Room := { frames := 7, cells := 0, slots := 0, locals := 153 }
def f_X9_gift_45 (kc31 : Int32 → Int32 → Int32 → Int32 → lb_Mem → Option (Int32 × lb_Mem)) : Nat → Int32 → Int32 → Int32 → Int32 → Int32 → lb_Mem → Option (Int32 × lb_Mem)
  | 0, _, _, _, _, _, _ => none
  | n + 1, x1, x3, x4, x5, x6, σ => if (σ 54 (1 : Int32).toNatClampNeg) ≤ x6 then kc31 x1 x3 x4 (x5 + 1) σ else (f_X9_graceGiven x5 x6 x1 σ).bind (fun q62 => if x3 < q62.1 then lb_let ((((10 : Int32) * x5) + x6)) (fun v84 : Int32 => f_X9_gift_45 kc31 n x1 q62.1 v84 x5 (x6 + 1) q62.2) else f_X9_gift_45 kc31 n x1 x3 x4 x5 (x6 + 1) q62.2)
set_option maxRecDepth 20000 in
set_option maxHeartbeats 4000000 in
theorem w_X9_gift_45 {p : Program} {l : Launch} {e : Env} {s : State} {m : MethodId} {args : Array Value} {below : List Frame} {meth : Method} {c : Code} {G : lb_G} {qr : (Int32 × lb_Mem)} (X : lb_C G p s m args meth c cX9_gift 8 RX9 (some .int)) {kc31 : Int32 → Int32 → Int32 → Int32 → lb_Mem → Option (Int32 × lb_Mem)} (hc31 : ∀ (x1 : Int32) (x3 : Int32) (x4 : Int32) (x5 : Int32) (σ : lb_Mem) (H : Heap) (locs : List Loc) (ls : Array Slot), kc31 x1 x3 x4 x5 σ = some qr → lb_W G s σ H locs → lv_has ls 8 [(0, .ref (lb_ad G 53)), (1, .int x1), (3, .int x3), (4, .int x4), (5, .int x5)] → W p l e rmX9_gift s m args below meth c H locs 0 0 (MQ below (lb_QI G qr.1 qr.2) args s 0 0 (lb_A G)) (F0 m 31 ls [])) : ∀ (n : Nat) (x1 : Int32) (x3 : Int32) (x4 : Int32) (x5 : Int32) (x6 : Int32) (σ : lb_Mem) (H : Heap) (locs : List Loc) (ls : Array Slot), f_X9_gift_45 kc31 n x1 x3 x4 x5 x6 σ = some qr → lb_W G s σ H locs → lv_has ls 8 [(0, .ref (lb_ad G 53)), (1, .int x1), (3, .int x3), (4, .int x4), (5, .int x5), (6, .int x6)] → W p l e rmX9_gift s m args below meth c H locs 0 0 (MQ below (lb_QI G qr.1 qr.2) args s 0 0 (lb_A G)) (F0 m 45 ls []) := by
  have hx := X.1
  have hb := X.2.1
  intro n
  induction n with
  | zero => intro x1 x3 x4 x5 x6 σ H locs ls h hW hl; exact absurd h (fun z => by cases z)
  | succ n ih =>
    intro x1 x3 x4 x5 x6 σ H locs ls h hW hl
    have h : (if (σ 54 (1 : Int32).toNatClampNeg) ≤ x6 then kc31 x1 x3 x4 (x5 + 1) σ else (f_X9_graceGiven x5 x6 x1 σ).bind (fun q62 => if x3 < q62.1 then lb_let ((((10 : Int32) * x5) + x6)) (fun v84 : Int32 => f_X9_gift_45 kc31 n x1 q62.1 v84 x5 (x6 + 1) q62.2) else f_X9_gift_45 kc31 n x1 x3 x4 x5 (x6 + 1) q62.2)) = some qr := h
    refine lv_iload hx hb dX9_gift_45 (lv_at hl 5 rfl) ?_
    refine lv_aload_n hx hb dX9_gift_47 rfl (lv_at hl 0 rfl) ?_
    refine rg_X9_9 X hW dX9_gift_48 ?_
    refine lv_iconst (v := 1) hx hb dX9_gift_51 rfl ?_
    refine lb_ild X hW (show lb_ar 54 = 60 + 1 from rfl) (lb_inC rfl) dX9_gift_52 ?_
    refine lv_icmp_ge (tgt := 95) hx hb dX9_gift_53 (by decide) (fun c53 => ?_) (fun c53 => ?_)
    · have h := (if_pos c53).symm.trans h
      refine lv_iinc (v := (x5 + 1)) (lv' := [(5, .int (x5 + 1)), (0, .ref (lb_ad G 53)), (1, .int x1), (3, .int x3), (4, .int x4), (6, .int x6)]) hx hb dX9_gift_95 hl (k := 4) rfl rfl (by decide) rfl (fun ls hl => ?_)
      refine lv_goto (tgt := 31) hx hb dX9_gift_98 (by decide) ?_
      exact hc31 x1 x3 x4 (x5 + 1) σ _ _ _ h hW (lv_sub hl [1, 2, 3, 4, 0] rfl)
    · have h := (if_neg c53).symm.trans h
      refine lv_aload_n hx hb dX9_gift_56 rfl (lv_at hl 0 rfl) ?_
      refine lv_iload hx hb dX9_gift_57 (lv_at hl 4 rfl) ?_
      refine lv_iload hx hb dX9_gift_59 (lv_at hl 5 rfl) ?_
      refine lv_iload_n hx hb dX9_gift_61 rfl (lv_at hl 1 rfl) ?_
      obtain ⟨q62, e62, h⟩ := lb_bind h
      refine rc_X9_152 X hW e62 ⟨⟨rfl, rfl⟩, Nat.le_of_ble_eq_true rfl, Nat.le_of_ble_eq_true rfl⟩ hl.1 (Nat.le_of_ble_eq_true rfl) dX9_gift_62 ⟨Nat.zero_le _, Nat.zero_le _⟩ (fun H locs hW => ?_)
      refine lv_istore (lv' := [(7, .int q62.1), (0, .ref (lb_ad G 53)), (1, .int x1), (3, .int x3), (4, .int x4), (5, .int x5), (6, .int x6)]) hx hb dX9_gift_65 hl (by decide) rfl (fun ls hl => ?_)
      refine lv_iload hx hb dX9_gift_67 (lv_at hl 0 rfl) ?_
      refine lv_iload_n hx hb dX9_gift_69 rfl (lv_at hl 3 rfl) ?_
      refine lv_icmp_gt (tgt := 76) hx hb dX9_gift_70 (by decide) (fun c70 => ?_) (fun c70 => ?_)
      · have h := (if_pos c70).symm.trans h
        refine lv_bipush (v := 10) hx hb dX9_gift_76 rfl ?_
        refine lv_iload hx hb dX9_gift_78 (lv_at hl 5 rfl) ?_
        refine lv_imul hx hb dX9_gift_80 ?_
        refine lv_iload hx hb dX9_gift_81 (lv_at hl 6 rfl) ?_
        refine lv_iadd hx hb dX9_gift_83 ?_
        refine lv_topi (fun v84 e84 => ?_)
        have h := lb_letI e84 h
        refine lv_istore (lv' := [(4, .int v84), (7, .int q62.1), (0, .ref (lb_ad G 53)), (1, .int x1), (3, .int x3), (5, .int x5), (6, .int x6)]) hx hb dX9_gift_84 hl (by decide) rfl (fun ls hl => ?_)
        refine lv_iload hx hb dX9_gift_86 (lv_at hl 1 rfl) ?_
        refine lv_istore_n (lv' := [(3, .int q62.1), (4, .int v84), (7, .int q62.1), (0, .ref (lb_ad G 53)), (1, .int x1), (5, .int x5), (6, .int x6)]) hx hb dX9_gift_88 rfl hl (by decide) rfl (fun ls hl => ?_)
        refine lv_iinc (v := (x6 + 1)) (lv' := [(6, .int (x6 + 1)), (3, .int q62.1), (4, .int v84), (7, .int q62.1), (0, .ref (lb_ad G 53)), (1, .int x1), (5, .int x5)]) hx hb dX9_gift_89 hl (k := 6) rfl rfl (by decide) rfl (fun ls hl => ?_)
        refine lv_goto (tgt := 45) hx hb dX9_gift_92 (by decide) ?_
        exact ih x1 q62.1 v84 x5 (x6 + 1) q62.2 _ _ _ h hW (lv_sub hl [4, 5, 1, 2, 6, 0] rfl)
      · have h := (if_neg c70).symm.trans h
        refine lv_goto (tgt := 89) hx hb dX9_gift_73 (by decide) ?_
        refine lv_iinc (v := (x6 + 1)) (lv' := [(6, .int (x6 + 1)), (7, .int q62.1), (0, .ref (lb_ad G 53)), (1, .int x1), (3, .int x3), (4, .int x4), (5, .int x5)]) hx hb dX9_gift_89 hl (k := 6) rfl rfl (by decide) rfl (fun ls hl => ?_)
        refine lv_goto (tgt := 45) hx hb dX9_gift_92 (by decide) ?_
        exact ih x1 x3 x4 x5 (x6 + 1) q62.2 _ _ _ h hW (lv_sub hl [2, 3, 4, 5, 6, 0] rfl)
def f_X9_gift_31 : Nat → Int32 → Int32 → Int32 → Int32 → lb_Mem → Option (Int32 × lb_Mem)
  | 0, _, _, _, _, _ => none
  | n + 1, x1, x3, x4, x5, σ => if (σ 54 (0 : Int32).toNatClampNeg) ≤ x5 then some (x4, σ) else f_X9_gift_45 (fun (x1 : Int32) (x3 : Int32) (x4 : Int32) (x5 : Int32) (σ : lb_Mem) => f_X9_gift_31 n x1 x3 x4 x5 σ) lb_N x1 x3 x4 x5 (0 : Int32) σ
set_option maxRecDepth 20000 in
set_option maxHeartbeats 4000000 in
theorem w_X9_gift_31 {p : Program} {l : Launch} {e : Env} {s : State} {m : MethodId} {args : Array Value} {below : List Frame} {meth : Method} {c : Code} {G : lb_G} {qr : (Int32 × lb_Mem)} (X : lb_C G p s m args meth c cX9_gift 8 RX9 (some .int)) : ∀ (n : Nat) (x1 : Int32) (x3 : Int32) (x4 : Int32) (x5 : Int32) (σ : lb_Mem) (H : Heap) (locs : List Loc) (ls : Array Slot), f_X9_gift_31 n x1 x3 x4 x5 σ = some qr → lb_W G s σ H locs → lv_has ls 8 [(0, .ref (lb_ad G 53)), (1, .int x1), (3, .int x3), (4, .int x4), (5, .int x5)] → W p l e rmX9_gift s m args below meth c H locs 0 0 (MQ below (lb_QI G qr.1 qr.2) args s 0 0 (lb_A G)) (F0 m 31 ls []) := by
  have hx := X.1
  have hb := X.2.1
  intro n
  induction n with
  | zero => intro x1 x3 x4 x5 σ H locs ls h hW hl; exact absurd h (fun z => by cases z)
  | succ n ih =>
    intro x1 x3 x4 x5 σ H locs ls h hW hl
    have h : (if (σ 54 (0 : Int32).toNatClampNeg) ≤ x5 then some (x4, σ) else f_X9_gift_45 (fun (x1 : Int32) (x3 : Int32) (x4 : Int32) (x5 : Int32) (σ : lb_Mem) => f_X9_gift_31 n x1 x3 x4 x5 σ) lb_N x1 x3 x4 x5 (0 : Int32) σ) = some qr := h
    refine lv_iload hx hb dX9_gift_31 (lv_at hl 4 rfl) ?_
    refine lv_aload_n hx hb dX9_gift_33 rfl (lv_at hl 0 rfl) ?_
    refine rg_X9_9 X hW dX9_gift_34 ?_
    refine lv_iconst (v := 0) hx hb dX9_gift_37 rfl ?_
    refine lb_ild X hW (show lb_ar 54 = 60 + 1 from rfl) (lb_inC rfl) dX9_gift_38 ?_
    refine lv_icmp_ge (tgt := 101) hx hb dX9_gift_39 (by decide) (fun c39 => ?_) (fun c39 => ?_)
    · have h := (if_pos c39).symm.trans h
      refine lv_iload hx hb dX9_gift_101 (lv_at hl 3 rfl) ?_
      obtain rfl := Option.some.inj h
      exact lb_iret X hW dX9_gift_103
    · have h := (if_neg c39).symm.trans h
      refine lv_iconst (v := 0) hx hb dX9_gift_42 rfl ?_
      refine lv_istore (lv' := [(6, .int (0 : Int32)), (0, .ref (lb_ad G 53)), (1, .int x1), (3, .int x3), (4, .int x4), (5, .int x5)]) hx hb dX9_gift_43 hl (by decide) rfl (fun ls hl => ?_)
      exact w_X9_gift_45 X ih lb_N x1 x3 x4 x5 (0 : Int32) σ _ _ _ h hW (lv_sub hl [1, 2, 3, 4, 5, 0] rfl)
def f_X9_gift (x1 : Int32) (σ : lb_Mem) : Option (Int32 × lb_Mem) := lb_let ((f_X9_wrongBy x1 (0 : Int32) (20 : Int32))) (fun v7 : Int32 => if v7 = 0 then (f_X9_graceNow x1 σ).bind (fun q20 => f_X9_gift_31 lb_N x1 q20.1 (-9 : Int32) (0 : Int32) q20.2) else (f_X9_no v7 σ).bind (fun q14 => some (q14.1, q14.2)))
set_option maxRecDepth 20000 in
set_option maxHeartbeats 4000000 in
theorem m_X9_gift (l : Launch) (G : lb_G) (σ : lb_Mem) (x1 : Int32) (qr : (Int32 × lb_Mem)) (h : f_X9_gift x1 σ = some qr) : lb_M l yX9_gift cX9_gift 8 (some .int) rmX9_gift [.ref (lb_ad G 53), .int x1] G σ (lb_QI G qr.1 qr.2) := by
  refine lb_start RX9 (by decide +kernel) rfl (Nat.le_of_ble_eq_true rfl) (fun p e s m below meth c X hW ls hl => ?_)
  have hx := X.1
  have hb := X.2.1
  have hl : lv_has ls 8 [(0, .ref (lb_ad G 53)), (1, .int x1)] := hl
  have h : (lb_let ((f_X9_wrongBy x1 (0 : Int32) (20 : Int32))) (fun v7 : Int32 => if v7 = 0 then (f_X9_graceNow x1 σ).bind (fun q20 => f_X9_gift_31 lb_N x1 q20.1 (-9 : Int32) (0 : Int32) q20.2) else (f_X9_no v7 σ).bind (fun q14 => some (q14.1, q14.2)))) = some qr := h
  skip
  refine lv_iload_n hx hb dX9_gift_0 rfl (lv_at hl 1 rfl) ?_
  refine lv_iconst (v := 0) hx hb dX9_gift_1 rfl ?_
  refine lv_bipush (v := 20) hx hb dX9_gift_2 rfl ?_
  refine rc_X9_125 X hW x1 (0 : Int32) (20 : Int32) ⟨⟨rfl, rfl⟩, Nat.le_of_ble_eq_true rfl, Nat.le_of_ble_eq_true rfl⟩ hl.1 (Nat.le_of_ble_eq_true rfl) dX9_gift_4 ⟨Nat.zero_le _, Nat.zero_le _⟩ (fun H locs hW => ?_)
  refine lv_topi (fun v7 e7 => ?_)
  have h := lb_letI e7 h
  refine lv_istore_n (lv' := [(2, .int v7), (0, .ref (lb_ad G 53)), (1, .int x1)]) hx hb dX9_gift_7 rfl hl (by decide) rfl (fun ls hl => ?_)
  refine lv_iload_n hx hb dX9_gift_8 rfl (lv_at hl 0 rfl) ?_
  refine lv_if_eq (tgt := 18) hx hb dX9_gift_9 (by decide) (fun c9 => ?_) (fun c9 => ?_)
  · have h := (if_pos c9).symm.trans h
    refine lv_aload_n hx hb dX9_gift_18 rfl (lv_at hl 1 rfl) ?_
    refine lv_iload_n hx hb dX9_gift_19 rfl (lv_at hl 2 rfl) ?_
    obtain ⟨q20, e20, h⟩ := lb_bind h
    refine rc_X9_149 X hW e20 ⟨⟨rfl, rfl⟩, Nat.le_of_ble_eq_true rfl, Nat.le_of_ble_eq_true rfl⟩ hl.1 (Nat.le_of_ble_eq_true rfl) dX9_gift_20 ⟨Nat.zero_le _, Nat.zero_le _⟩ (fun H locs hW => ?_)
    refine lv_istore_n (lv' := [(3, .int q20.1), (2, .int v7), (0, .ref (lb_ad G 53)), (1, .int x1)]) hx hb dX9_gift_23 rfl hl (by decide) rfl (fun ls hl => ?_)
    refine lv_bipush (v := -9) hx hb dX9_gift_24 rfl ?_
    refine lv_istore (lv' := [(4, .int (-9 : Int32)), (3, .int q20.1), (2, .int v7), (0, .ref (lb_ad G 53)), (1, .int x1)]) hx hb dX9_gift_26 hl (by decide) rfl (fun ls hl => ?_)
    refine lv_iconst (v := 0) hx hb dX9_gift_28 rfl ?_
    refine lv_istore (lv' := [(5, .int (0 : Int32)), (4, .int (-9 : Int32)), (3, .int q20.1), (2, .int v7), (0, .ref (lb_ad G 53)), (1, .int x1)]) hx hb dX9_gift_29 hl (by decide) rfl (fun ls hl => ?_)
    exact w_X9_gift_31 X lb_N x1 q20.1 (-9 : Int32) (0 : Int32) q20.2 _ _ _ h hW (lv_sub hl [4, 5, 2, 1, 0] rfl)
  · have h := (if_neg c9).symm.trans h
    refine lv_aload_n hx hb dX9_gift_12 rfl (lv_at hl 1 rfl) ?_
    refine lv_iload_n hx hb dX9_gift_13 rfl (lv_at hl 0 rfl) ?_
    obtain ⟨q14, e14, h⟩ := lb_bind h
    refine rc_X9_35 X hW e14 ⟨⟨rfl, rfl⟩, Nat.le_of_ble_eq_true rfl, Nat.le_of_ble_eq_true rfl⟩ hl.1 (Nat.le_of_ble_eq_true rfl) dX9_gift_14 ⟨Nat.zero_le _, Nat.zero_le _⟩ (fun H locs hW => ?_)
    obtain rfl := Option.some.inj h
    exact lb_iret X hW dX9_gift_17
abbrev rmX9_dealtTo : Room := { frames := 2, cells := 0, slots := 0, locals := 48 }
def f_X9_dealtTo_5 (σ : lb_Mem) : Nat → Int32 → Int32 → Int32 → Option Int32
  | 0, _, _, _ => none
  | n + 1, x1, x2, x3 => if (σ 54 (1 : Int32).toNatClampNeg) ≤ x3 then some x2 else if x2 < 0 then f_X9_dealtTo_5 σ n x1 x3 (x3 + 1) else (f_X9_gainsIn σ 54 x1 x3).bind (fun q25 => (f_X9_gainsIn σ 54 x1 x2).bind (fun q34 => if q25 ≤ q34 then f_X9_dealtTo_5 σ n x1 x2 (x3 + 1) else f_X9_dealtTo_5 σ n x1 x3 (x3 + 1)))
set_option maxRecDepth 20000 in
set_option maxHeartbeats 4000000 in
theorem w_X9_dealtTo_5 {p : Program} {l : Launch} {e : Env} {s : State} {m : MethodId} {args : Array Value} {below : List Frame} {meth : Method} {c : Code} {G : lb_G} {σ : lb_Mem} {qr : Int32} (X : lb_C G p s m args meth c cX9_dealtTo 4 RX9 (some .int)) : ∀ (n : Nat) (x1 : Int32) (x2 : Int32) (x3 : Int32) (H : Heap) (locs : List Loc) (ls : Array Slot), f_X9_dealtTo_5 σ n x1 x2 x3 = some qr → lb_W G s σ H locs → lv_has ls 4 [(0, .ref (lb_ad G 53)), (1, .int x1), (2, .int x2), (3, .int x3)] → W p l e rmX9_dealtTo s m args below meth c H locs 0 0 (MQ below (lb_QI G qr σ) args s 0 0 (lb_A G)) (F0 m 5 ls []) := by
  have hx := X.1
  have hb := X.2.1
  intro n
  induction n with
  | zero => intro x1 x2 x3 H locs ls h hW hl; exact absurd h (fun z => by cases z)
  | succ n ih =>
    intro x1 x2 x3 H locs ls h hW hl
    have h : (if (σ 54 (1 : Int32).toNatClampNeg) ≤ x3 then some x2 else if x2 < 0 then f_X9_dealtTo_5 σ n x1 x3 (x3 + 1) else (f_X9_gainsIn σ 54 x1 x3).bind (fun q25 => (f_X9_gainsIn σ 54 x1 x2).bind (fun q34 => if q25 ≤ q34 then f_X9_dealtTo_5 σ n x1 x2 (x3 + 1) else f_X9_dealtTo_5 σ n x1 x3 (x3 + 1)))) = some qr := h
    refine lv_iload_n hx hb dX9_dealtTo_5 rfl (lv_at hl 3 rfl) ?_
    refine lv_aload_n hx hb dX9_dealtTo_6 rfl (lv_at hl 0 rfl) ?_
    refine rg_X9_9 X hW dX9_dealtTo_7 ?_
    refine lv_iconst (v := 1) hx hb dX9_dealtTo_10 rfl ?_
    refine lb_ild X hW (show lb_ar 54 = 60 + 1 from rfl) (lb_inC rfl) dX9_dealtTo_11 ?_
    refine lv_icmp_ge (tgt := 48) hx hb dX9_dealtTo_12 (by decide) (fun c12 => ?_) (fun c12 => ?_)
    · have h := (if_pos c12).symm.trans h
      refine lv_iload_n hx hb dX9_dealtTo_48 rfl (lv_at hl 2 rfl) ?_
      obtain rfl := Option.some.inj h
      exact lb_iret X hW dX9_dealtTo_49
    · have h := (if_neg c12).symm.trans h
      refine lv_iload_n hx hb dX9_dealtTo_15 rfl (lv_at hl 2 rfl) ?_
      refine lv_if_lt (tgt := 40) hx hb dX9_dealtTo_16 (by decide) (fun c16 => ?_) (fun c16 => ?_)
      · have h := (if_pos c16).symm.trans h
        refine lv_iload_n hx hb dX9_dealtTo_40 rfl (lv_at hl 3 rfl) ?_
        refine lv_istore_n (lv' := [(2, .int x3), (0, .ref (lb_ad G 53)), (1, .int x1), (3, .int x3)]) hx hb dX9_dealtTo_41 rfl hl (by decide) rfl (fun ls hl => ?_)
        refine lv_iinc (v := (x3 + 1)) (lv' := [(3, .int (x3 + 1)), (2, .int x3), (0, .ref (lb_ad G 53)), (1, .int x1)]) hx hb dX9_dealtTo_42 hl (k := 3) rfl rfl (by decide) rfl (fun ls hl => ?_)
        refine lv_goto (tgt := 5) hx hb dX9_dealtTo_45 (by decide) ?_
        exact ih x1 x3 (x3 + 1) _ _ _ h hW (lv_sub hl [2, 3, 1, 0] rfl)
      · have h := (if_neg c16).symm.trans h
        refine lv_aload_n hx hb dX9_dealtTo_19 rfl (lv_at hl 0 rfl) ?_
        refine rg_X9_9 X hW dX9_dealtTo_20 ?_
        refine lv_iload_n hx hb dX9_dealtTo_23 rfl (lv_at hl 1 rfl) ?_
        refine lv_iload_n hx hb dX9_dealtTo_24 rfl (lv_at hl 3 rfl) ?_
        obtain ⟨q25, e25, h⟩ := lb_bind h
        refine rc_X9_63 X hW (show lb_ar 54 = 60 + 1 from rfl) e25 ⟨⟨rfl, rfl⟩, Nat.le_of_ble_eq_true rfl, Nat.le_of_ble_eq_true rfl⟩ hl.1 (Nat.le_of_ble_eq_true rfl) dX9_dealtTo_25 ⟨Nat.zero_le _, Nat.zero_le _⟩ (fun H locs hW => ?_)
        refine lv_aload_n hx hb dX9_dealtTo_28 rfl (lv_at hl 0 rfl) ?_
        refine rg_X9_9 X hW dX9_dealtTo_29 ?_
        refine lv_iload_n hx hb dX9_dealtTo_32 rfl (lv_at hl 1 rfl) ?_
        refine lv_iload_n hx hb dX9_dealtTo_33 rfl (lv_at hl 2 rfl) ?_
        obtain ⟨q34, e34, h⟩ := lb_bind h
        refine rc_X9_63 X hW (show lb_ar 54 = 60 + 1 from rfl) e34 ⟨⟨rfl, rfl⟩, Nat.le_of_ble_eq_true rfl, Nat.le_of_ble_eq_true rfl⟩ hl.1 (Nat.le_of_ble_eq_true rfl) dX9_dealtTo_34 ⟨Nat.zero_le _, Nat.zero_le _⟩ (fun H locs hW => ?_)
        refine lv_icmp_le (tgt := 42) hx hb dX9_dealtTo_37 (by decide) (fun c37 => ?_) (fun c37 => ?_)
        · have h := (if_pos c37).symm.trans h
          refine lv_iinc (v := (x3 + 1)) (lv' := [(3, .int (x3 + 1)), (0, .ref (lb_ad G 53)), (1, .int x1), (2, .int x2)]) hx hb dX9_dealtTo_42 hl (k := 3) rfl rfl (by decide) rfl (fun ls hl => ?_)
          refine lv_goto (tgt := 5) hx hb dX9_dealtTo_45 (by decide) ?_
          exact ih x1 x2 (x3 + 1) _ _ _ h hW (lv_sub hl [1, 2, 3, 0] rfl)
        · have h := (if_neg c37).symm.trans h
          refine lv_iload_n hx hb dX9_dealtTo_40 rfl (lv_at hl 3 rfl) ?_
          refine lv_istore_n (lv' := [(2, .int x3), (0, .ref (lb_ad G 53)), (1, .int x1), (3, .int x3)]) hx hb dX9_dealtTo_41 rfl hl (by decide) rfl (fun ls hl => ?_)
          refine lv_iinc (v := (x3 + 1)) (lv' := [(3, .int (x3 + 1)), (2, .int x3), (0, .ref (lb_ad G 53)), (1, .int x1)]) hx hb dX9_dealtTo_42 hl (k := 3) rfl rfl (by decide) rfl (fun ls hl => ?_)
          refine lv_goto (tgt := 5) hx hb dX9_dealtTo_45 (by decide) ?_
          exact ih x1 x3 (x3 + 1) _ _ _ h hW (lv_sub hl [2, 3, 1, 0] rfl)
def f_X9_dealtTo (σ : lb_Mem) (x1 : Int32) : Option Int32 := f_X9_dealtTo_5 σ lb_N x1 (-9 : Int32) (0 : Int32)
set_option maxRecDepth 20000 in
set_option maxHeartbeats 4000000 in
theorem m_X9_dealtTo (l : Launch) (G : lb_G) (σ : lb_Mem) (x1 : Int32) (qr : Int32) (h : f_X9_dealtTo σ x1 = some qr) : lb_M l yX9_dealtTo cX9_dealtTo 4 (some .int) rmX9_dealtTo [.ref (lb_ad G 53), .int x1] G σ (lb_QI G qr σ) := by
  refine lb_start RX9 (by decide +kernel) rfl (Nat.le_of_ble_eq_true rfl) (fun p e s m below meth c X hW ls hl => ?_)
  have hx := X.1
  have hb := X.2.1
  have hl : lv_has ls 4 [(0, .ref (lb_ad G 53)), (1, .int x1)] := hl
  have h : (f_X9_dealtTo_5 σ lb_N x1 (-9 : Int32) (0 : Int32)) = some qr := h
  skip
  refine lv_bipush (v := -9) hx hb dX9_dealtTo_0 rfl ?_
  refine lv_istore_n (lv' := [(2, .int (-9 : Int32)), (0, .ref (lb_ad G 53)), (1, .int x1)]) hx hb dX9_dealtTo_2 rfl hl (by decide) rfl (fun ls hl => ?_)
  refine lv_iconst (v := 0) hx hb dX9_dealtTo_3 rfl ?_
  refine lv_istore_n (lv' := [(3, .int (0 : Int32)), (2, .int (-9 : Int32)), (0, .ref (lb_ad G 53)), (1, .int x1)]) hx hb dX9_dealtTo_4 rfl hl (by decide) rfl (fun ls hl => ?_)
  exact w_X9_dealtTo_5 X lb_N x1 (-9 : Int32) (0 : Int32) _ _ _ h hW (lv_sub hl [2, 3, 1, 0] rfl)
theorem rc_X9_155 {p : Program} {l : Launch} {e : Env} {R : Room} {s : State} {m : MethodId} {args : Array Value} {below : List Frame} {meth : Method} {c : Code} {H : Heap} {locs : List Loc} {cells slots : Nat} {Q : State → Prop} {cc : ByteArray} {pc nL : Nat} {ls : Array Slot} {rest : List Value} {G : lb_G} {σ : lb_Mem} {ret : Option FieldType} (X : lb_C G p s m args meth c cc nL RX9 ret) (hW : lb_W G s σ H locs) {x1 : Int32} {qr : Int32} (h : f_X9_dealtTo σ x1 = some qr) (hR : lb_room rmX9_dealtTo R 4) (hls : ls.size = nL) (hrest : (rest.map fun v => v.category).sum ≤ 8) (d : decode cc pc = .ok (.invokevirtual 155, 3)) (hcap : cells ≤ R.cells ∧ slots ≤ R.slots) (kk : ∀ (H1 : Heap) (locs1 : List Loc), lb_W G s σ H1 locs1 → W p l e R s m args below meth c H1 locs1 cells slots Q (F0 m (pc + 3) ls (.int qr :: rest))) : W p l e R s m args below meth c H locs cells slots Q (F0 m pc ls (.int x1 :: .ref (lb_ad G 53) :: rest)) :=
  lb_goI hW (lb_runV (As := [.int x1]) X hW (m_X9_dealtTo l G σ x1 qr h) (n := 1) ⟨qw_1009, qw_52, qw_1012, by decide +kernel⟩ hR qw_1011 qw_35 lb_is53 rfl hls hrest d hcap) kk
abbrev rmX9_deal : Room := { frames := 3, cells := 0, slots := 0, locals := 71 }
def f_X9_deal_101 (x1 : Int32) (x3 : Int32) (x4 : Int32) (σ : lb_Mem) : Option (Int32 × lb_Mem) := if 0 ≤ x1 then some (x4, σ) else some (x3, σ)
set_option maxRecDepth 20000 in
set_option maxHeartbeats 4000000 in
theorem w_X9_deal_101 {p : Program} {l : Launch} {e : Env} {s : State} {m : MethodId} {args : Array Value} {below : List Frame} {meth : Method} {c : Code} {G : lb_G} {qr : (Int32 × lb_Mem)} (X : lb_C G p s m args meth c cX9_deal 6 RX9 (some .int)) : ∀ (x1 : Int32) (x3 : Int32) (x4 : Int32) (σ : lb_Mem) (H : Heap) (locs : List Loc) (ls : Array Slot), f_X9_deal_101 x1 x3 x4 σ = some qr → lb_W G s σ H locs → lv_has ls 6 [(1, .int x1), (3, .int x3), (4, .int x4)] → W p l e rmX9_deal s m args below meth c H locs 0 0 (MQ below (lb_QI G qr.1 qr.2) args s 0 0 (lb_A G)) (F0 m 101 ls []) := by
  have hx := X.1
  have hb := X.2.1
  intro x1 x3 x4 σ H locs ls h hW hl
  have h : (if 0 ≤ x1 then some (x4, σ) else some (x3, σ)) = some qr := h
  refine lv_iload_n hx hb dX9_deal_101 rfl (lv_at hl 0 rfl) ?_
  refine lv_if_ge (tgt := 109) hx hb dX9_deal_102 (by decide) (fun c102 => ?_) (fun c102 => ?_)
  · have h := (if_pos c102).symm.trans h
    refine lv_iload hx hb dX9_deal_109 (lv_at hl 2 rfl) ?_
    obtain rfl := Option.some.inj h
    exact lb_iret X hW dX9_deal_111
  · have h := (if_neg c102).symm.trans h
    refine lv_iload_n hx hb dX9_deal_105 rfl (lv_at hl 1 rfl) ?_
    refine lv_goto (tgt := 111) hx hb dX9_deal_106 (by decide) ?_
    obtain rfl := Option.some.inj h
    exact lb_iret X hW dX9_deal_111
def f_X9_deal_23 : Nat → Int32 → Int32 → Int32 → Int32 → Int32 → lb_Mem → Option (Int32 × lb_Mem)
  | 0, _, _, _, _, _, _ => none
  | n + 1, x1, x2, x3, x4, x5, σ => if (σ 54 (0 : Int32).toNatClampNeg) ≤ x5 then f_X9_deal_101 x1 x3 x4 σ else if (5 : Int32) ≤ x2 then f_X9_deal_101 x1 x3 x4 σ else lb_chk (lb_ix (f_X9_ofT x5 (4 : Int32)) 61) (if (σ 54 (f_X9_ofT x5 (4 : Int32)).toNatClampNeg) = 0 then f_X9_deal_23 n x1 x2 x3 x4 (x5 + 1) σ else (f_X9_dealtTo σ x5).bind (fun q66 => (f_X9_gainsIn σ 54 x5 q66).bind (fun q69 => lb_let ((x3 + q69)) (fun v73 : Int32 => if x2 = x1 then (f_X9_dealtTo σ x5).bind (fun q82 => f_X9_deal_23 n x1 (x2 + 1) v73 q82 (x5 + 1) σ) else f_X9_deal_23 n x1 (x2 + 1) v73 x4 (x5 + 1) σ))))
set_option maxRecDepth 20000 in
set_option maxHeartbeats 4000000 in
theorem w_X9_deal_23 {p : Program} {l : Launch} {e : Env} {s : State} {m : MethodId} {args : Array Value} {below : List Frame} {meth : Method} {c : Code} {G : lb_G} {qr : (Int32 × lb_Mem)} (X : lb_C G p s m args meth c cX9_deal 6 RX9 (some .int)) : ∀ (n : Nat) (x1 : Int32) (x2 : Int32) (x3 : Int32) (x4 : Int32) (x5 : Int32) (σ : lb_Mem) (H : Heap) (locs : List Loc) (ls : Array Slot), f_X9_deal_23 n x1 x2 x3 x4 x5 σ = some qr → lb_W G s σ H locs → lv_has ls 6 [(0, .ref (lb_ad G 53)), (1, .int x1), (2, .int x2), (3, .int x3), (4, .int x4), (5, .int x5)] → W p l e rmX9_deal s m args below meth c H locs 0 0 (MQ below (lb_QI G qr.1 qr.2) args s 0 0 (lb_A G)) (F0 m 23 ls []) := by
  have hx := X.1
  have hb := X.2.1
  intro n
  induction n with
  | zero => intro x1 x2 x3 x4 x5 σ H locs ls h hW hl; exact absurd h (fun z => by cases z)
  | succ n ih =>
    intro x1 x2 x3 x4 x5 σ H locs ls h hW hl
    have h : (if (σ 54 (0 : Int32).toNatClampNeg) ≤ x5 then f_X9_deal_101 x1 x3 x4 σ else if (5 : Int32) ≤ x2 then f_X9_deal_101 x1 x3 x4 σ else lb_chk (lb_ix (f_X9_ofT x5 (4 : Int32)) 61) (if (σ 54 (f_X9_ofT x5 (4 : Int32)).toNatClampNeg) = 0 then f_X9_deal_23 n x1 x2 x3 x4 (x5 + 1) σ else (f_X9_dealtTo σ x5).bind (fun q66 => (f_X9_gainsIn σ 54 x5 q66).bind (fun q69 => lb_let ((x3 + q69)) (fun v73 : Int32 => if x2 = x1 then (f_X9_dealtTo σ x5).bind (fun q82 => f_X9_deal_23 n x1 (x2 + 1) v73 q82 (x5 + 1) σ) else f_X9_deal_23 n x1 (x2 + 1) v73 x4 (x5 + 1) σ))))) = some qr := h
    refine lv_iload hx hb dX9_deal_23 (lv_at hl 5 rfl) ?_
    refine lv_aload_n hx hb dX9_deal_25 rfl (lv_at hl 0 rfl) ?_
    refine rg_X9_9 X hW dX9_deal_26 ?_
    refine lv_iconst (v := 0) hx hb dX9_deal_29 rfl ?_
    refine lb_ild X hW (show lb_ar 54 = 60 + 1 from rfl) (lb_inC rfl) dX9_deal_30 ?_
    refine lv_icmp_ge (tgt := 101) hx hb dX9_deal_31 (by decide) (fun c31 => ?_) (fun c31 => ?_)
    · have h := (if_pos c31).symm.trans h
      exact w_X9_deal_101 X x1 x3 x4 σ _ _ _ h hW (lv_sub hl [1, 3, 4] rfl)
    · have h := (if_neg c31).symm.trans h
      refine lv_iload_n hx hb dX9_deal_34 rfl (lv_at hl 2 rfl) ?_
      refine lv_iconst (v := 5) hx hb dX9_deal_35 rfl ?_
      refine lv_icmp_ge (tgt := 101) hx hb dX9_deal_36 (by decide) (fun c36 => ?_) (fun c36 => ?_)
      · have h := (if_pos c36).symm.trans h
        exact w_X9_deal_101 X x1 x3 x4 σ _ _ _ h hW (lv_sub hl [1, 3, 4] rfl)
      · have h := (if_neg c36).symm.trans h
        refine lv_aload_n hx hb dX9_deal_39 rfl (lv_at hl 0 rfl) ?_
        refine rg_X9_9 X hW dX9_deal_40 ?_
        refine lv_iload hx hb dX9_deal_43 (lv_at hl 5 rfl) ?_
        refine lv_iconst (v := 4) hx hb dX9_deal_45 rfl ?_
        refine rc_X9_45 X hW x5 (4 : Int32) ⟨⟨rfl, rfl⟩, Nat.le_of_ble_eq_true rfl, Nat.le_of_ble_eq_true rfl⟩ hl.1 (Nat.le_of_ble_eq_true rfl) dX9_deal_46 ⟨Nat.zero_le _, Nat.zero_le _⟩ (fun H locs hW => ?_)
        obtain ⟨i49, h⟩ := lb_chk_in h
        refine lb_ild X hW (show lb_ar 54 = 60 + 1 from rfl) i49 dX9_deal_49 ?_
        refine lv_if_ne (tgt := 56) hx hb dX9_deal_50 (by decide) (fun c50 => ?_) (fun c50 => ?_)
        · have h := (if_neg c50).symm.trans h
          refine lv_iload_n hx hb dX9_deal_56 rfl (lv_at hl 3 rfl) ?_
          refine lv_aload_n hx hb dX9_deal_57 rfl (lv_at hl 0 rfl) ?_
          refine rg_X9_9 X hW dX9_deal_58 ?_
          refine lv_iload hx hb dX9_deal_61 (lv_at hl 5 rfl) ?_
          refine lv_aload_n hx hb dX9_deal_63 rfl (lv_at hl 0 rfl) ?_
          refine lv_iload hx hb dX9_deal_64 (lv_at hl 5 rfl) ?_
          obtain ⟨q66, e66, h⟩ := lb_bind h
          refine rc_X9_155 X hW e66 ⟨⟨rfl, rfl⟩, Nat.le_of_ble_eq_true rfl, Nat.le_of_ble_eq_true rfl⟩ hl.1 (Nat.le_of_ble_eq_true rfl) dX9_deal_66 ⟨Nat.zero_le _, Nat.zero_le _⟩ (fun H locs hW => ?_)
          obtain ⟨q69, e69, h⟩ := lb_bind h
          refine rc_X9_63 X hW (show lb_ar 54 = 60 + 1 from rfl) e69 ⟨⟨rfl, rfl⟩, Nat.le_of_ble_eq_true rfl, Nat.le_of_ble_eq_true rfl⟩ hl.1 (Nat.le_of_ble_eq_true rfl) dX9_deal_69 ⟨Nat.zero_le _, Nat.zero_le _⟩ (fun H locs hW => ?_)
          refine lv_iadd hx hb dX9_deal_72 ?_
          refine lv_topi (fun v73 e73 => ?_)
          have h := lb_letI e73 h
          refine lv_istore_n (lv' := [(3, .int v73), (0, .ref (lb_ad G 53)), (1, .int x1), (2, .int x2), (4, .int x4), (5, .int x5)]) hx hb dX9_deal_73 rfl hl (by decide) rfl (fun ls hl => ?_)
          refine lv_iload_n hx hb dX9_deal_74 rfl (lv_at hl 3 rfl) ?_
          refine lv_iload_n hx hb dX9_deal_75 rfl (lv_at hl 2 rfl) ?_
          refine lv_icmp_ne (tgt := 88) hx hb dX9_deal_76 (by decide) (fun c76 => ?_) (fun c76 => ?_)
          · have h := (if_neg c76).symm.trans h
            refine lv_iload hx hb dX9_deal_88 (lv_at hl 4 rfl) ?_
            refine lv_istore (lv' := [(4, .int x4), (3, .int v73), (0, .ref (lb_ad G 53)), (1, .int x1), (2, .int x2), (5, .int x5)]) hx hb dX9_deal_90 hl (by decide) rfl (fun ls hl => ?_)
            refine lv_iinc (v := (x2 + 1)) (lv' := [(2, .int (x2 + 1)), (4, .int x4), (3, .int v73), (0, .ref (lb_ad G 53)), (1, .int x1), (5, .int x5)]) hx hb dX9_deal_92 hl (k := 4) rfl rfl (by decide) rfl (fun ls hl => ?_)
            refine lv_iinc (v := (x5 + 1)) (lv' := [(5, .int (x5 + 1)), (2, .int (x2 + 1)), (4, .int x4), (3, .int v73), (0, .ref (lb_ad G 53)), (1, .int x1)]) hx hb dX9_deal_95 hl (k := 5) rfl rfl (by decide) rfl (fun ls hl => ?_)
            refine lv_goto (tgt := 23) hx hb dX9_deal_98 (by decide) ?_
            exact ih x1 (x2 + 1) v73 x4 (x5 + 1) σ _ _ _ h hW (lv_sub hl [4, 5, 1, 3, 2, 0] rfl)
          · have h := (if_pos c76).symm.trans h
            refine lv_aload_n hx hb dX9_deal_79 rfl (lv_at hl 1 rfl) ?_
            refine lv_iload hx hb dX9_deal_80 (lv_at hl 5 rfl) ?_
            obtain ⟨q82, e82, h⟩ := lb_bind h
            refine rc_X9_155 X hW e82 ⟨⟨rfl, rfl⟩, Nat.le_of_ble_eq_true rfl, Nat.le_of_ble_eq_true rfl⟩ hl.1 (Nat.le_of_ble_eq_true rfl) dX9_deal_82 ⟨Nat.zero_le _, Nat.zero_le _⟩ (fun H locs hW => ?_)
            refine lv_goto (tgt := 90) hx hb dX9_deal_85 (by decide) ?_
            refine lv_istore (lv' := [(4, .int q82), (3, .int v73), (0, .ref (lb_ad G 53)), (1, .int x1), (2, .int x2), (5, .int x5)]) hx hb dX9_deal_90 hl (by decide) rfl (fun ls hl => ?_)
            refine lv_iinc (v := (x2 + 1)) (lv' := [(2, .int (x2 + 1)), (4, .int q82), (3, .int v73), (0, .ref (lb_ad G 53)), (1, .int x1), (5, .int x5)]) hx hb dX9_deal_92 hl (k := 4) rfl rfl (by decide) rfl (fun ls hl => ?_)
            refine lv_iinc (v := (x5 + 1)) (lv' := [(5, .int (x5 + 1)), (2, .int (x2 + 1)), (4, .int q82), (3, .int v73), (0, .ref (lb_ad G 53)), (1, .int x1)]) hx hb dX9_deal_95 hl (k := 5) rfl rfl (by decide) rfl (fun ls hl => ?_)
            refine lv_goto (tgt := 23) hx hb dX9_deal_98 (by decide) ?_
            exact ih x1 (x2 + 1) v73 q82 (x5 + 1) σ _ _ _ h hW (lv_sub hl [4, 5, 1, 3, 2, 0] rfl)
        · have h := (if_pos c50).symm.trans h
          refine lv_goto (tgt := 95) hx hb dX9_deal_53 (by decide) ?_
          refine lv_iinc (v := (x5 + 1)) (lv' := [(5, .int (x5 + 1)), (0, .ref (lb_ad G 53)), (1, .int x1), (2, .int x2), (3, .int x3), (4, .int x4)]) hx hb dX9_deal_95 hl (k := 5) rfl rfl (by decide) rfl (fun ls hl => ?_)
          refine lv_goto (tgt := 23) hx hb dX9_deal_98 (by decide) ?_
          exact ih x1 x2 x3 x4 (x5 + 1) σ _ _ _ h hW (lv_sub hl [1, 2, 3, 4, 5, 0] rfl)
def f_X9_deal (x1 : Int32) (σ : lb_Mem) : Option (Int32 × lb_Mem) := if (-1 : Int32) ≤ x1 then f_X9_deal_23 lb_N x1 (0 : Int32) (0 : Int32) (-9 : Int32) (0 : Int32) σ else (f_X9_noFar (-4 : Int32) σ).bind (fun q8 => some (q8.1, q8.2))
set_option maxRecDepth 20000 in
set_option maxHeartbeats 4000000 in
theorem m_X9_deal (l : Launch) (G : lb_G) (σ : lb_Mem) (x1 : Int32) (qr : (Int32 × lb_Mem)) (h : f_X9_deal x1 σ = some qr) : lb_M l yX9_deal cX9_deal 6 (some .int) rmX9_deal [.ref (lb_ad G 53), .int x1] G σ (lb_QI G qr.1 qr.2) := by
  refine lb_start RX9 (by decide +kernel) rfl (Nat.le_of_ble_eq_true rfl) (fun p e s m below meth c X hW ls hl => ?_)
  have hx := X.1
  have hb := X.2.1
  have hl : lv_has ls 6 [(0, .ref (lb_ad G 53)), (1, .int x1)] := hl
  have h : (if (-1 : Int32) ≤ x1 then f_X9_deal_23 lb_N x1 (0 : Int32) (0 : Int32) (-9 : Int32) (0 : Int32) σ else (f_X9_noFar (-4 : Int32) σ).bind (fun q8 => some (q8.1, q8.2))) = some qr := h
  skip
  refine lv_iload_n hx hb dX9_deal_0 rfl (lv_at hl 1 rfl) ?_
  refine lv_iconst (v := -1) hx hb dX9_deal_1 rfl ?_
  refine lv_icmp_ge (tgt := 12) hx hb dX9_deal_2 (by decide) (fun c2 => ?_) (fun c2 => ?_)
  · have h := (if_pos c2).symm.trans h
    refine lv_iconst (v := 0) hx hb dX9_deal_12 rfl ?_
    refine lv_istore_n (lv' := [(2, .int (0 : Int32)), (0, .ref (lb_ad G 53)), (1, .int x1)]) hx hb dX9_deal_13 rfl hl (by decide) rfl (fun ls hl => ?_)
    refine lv_iconst (v := 0) hx hb dX9_deal_14 rfl ?_
    refine lv_istore_n (lv' := [(3, .int (0 : Int32)), (2, .int (0 : Int32)), (0, .ref (lb_ad G 53)), (1, .int x1)]) hx hb dX9_deal_15 rfl hl (by decide) rfl (fun ls hl => ?_)
    refine lv_bipush (v := -9) hx hb dX9_deal_16 rfl ?_
    refine lv_istore (lv' := [(4, .int (-9 : Int32)), (3, .int (0 : Int32)), (2, .int (0 : Int32)), (0, .ref (lb_ad G 53)), (1, .int x1)]) hx hb dX9_deal_18 hl (by decide) rfl (fun ls hl => ?_)
    refine lv_iconst (v := 0) hx hb dX9_deal_20 rfl ?_
    refine lv_istore (lv' := [(5, .int (0 : Int32)), (4, .int (-9 : Int32)), (3, .int (0 : Int32)), (2, .int (0 : Int32)), (0, .ref (lb_ad G 53)), (1, .int x1)]) hx hb dX9_deal_21 hl (by decide) rfl (fun ls hl => ?_)
    exact w_X9_deal_23 X lb_N x1 (0 : Int32) (0 : Int32) (-9 : Int32) (0 : Int32) σ _ _ _ h hW (lv_sub hl [4, 5, 3, 2, 1, 0] rfl)
  · have h := (if_neg c2).symm.trans h
    refine lv_aload_n hx hb dX9_deal_5 rfl (lv_at hl 0 rfl) ?_
    refine lv_bipush (v := -4) hx hb dX9_deal_6 rfl ?_
    obtain ⟨q8, e8, h⟩ := lb_bind h
    refine rc_X9_122 X hW e8 ⟨⟨rfl, rfl⟩, Nat.le_of_ble_eq_true rfl, Nat.le_of_ble_eq_true rfl⟩ hl.1 (Nat.le_of_ble_eq_true rfl) dX9_deal_8 ⟨Nat.zero_le _, Nat.zero_le _⟩ (fun H locs hW => ?_)
    obtain rfl := Option.some.inj h
    exact lb_iret X hW dX9_deal_11
abbrev rmX9_gainsOwner : Room := { frames := 2, cells := 0, slots := 0, locals := 48 }
def f_X9_gainsOwner (σ : lb_Mem) (x1 : Int32) : Option Int32 := lb_chk (lb_ix (f_X9_ofT x1 (5 : Int32)) 61) ((f_X9_gainsIn σ 54 x1 (σ 54 (f_X9_ofT x1 (5 : Int32)).toNatClampNeg)).bind (fun q15 => some q15))
set_option maxRecDepth 20000 in
set_option maxHeartbeats 4000000 in
theorem m_X9_gainsOwner (l : Launch) (G : lb_G) (σ : lb_Mem) (x1 : Int32) (qr : Int32) (h : f_X9_gainsOwner σ x1 = some qr) : lb_M l yX9_gainsOwner cX9_gainsOwner 2 (some .int) rmX9_gainsOwner [.ref (lb_ad G 53), .int x1] G σ (lb_QI G qr σ) := by
  refine lb_start RX9 (by decide +kernel) rfl (Nat.le_of_ble_eq_true rfl) (fun p e s m below meth c X hW ls hl => ?_)
  have hx := X.1
  have hb := X.2.1
  have hl : lv_has ls 2 [(0, .ref (lb_ad G 53)), (1, .int x1)] := hl
  have h : (lb_chk (lb_ix (f_X9_ofT x1 (5 : Int32)) 61) ((f_X9_gainsIn σ 54 x1 (σ 54 (f_X9_ofT x1 (5 : Int32)).toNatClampNeg)).bind (fun q15 => some q15))) = some qr := h
  skip
  refine lv_aload_n hx hb dX9_gainsOwner_0 rfl (lv_at hl 0 rfl) ?_
  refine rg_X9_9 X hW dX9_gainsOwner_1 ?_
  refine lv_iload_n hx hb dX9_gainsOwner_4 rfl (lv_at hl 1 rfl) ?_
  refine lv_aload_n hx hb dX9_gainsOwner_5 rfl (lv_at hl 0 rfl) ?_
  refine rg_X9_9 X hW dX9_gainsOwner_6 ?_
  refine lv_iload_n hx hb dX9_gainsOwner_9 rfl (lv_at hl 1 rfl) ?_
  refine lv_iconst (v := 5) hx hb dX9_gainsOwner_10 rfl ?_
  refine rc_X9_45 X hW x1 (5 : Int32) ⟨⟨rfl, rfl⟩, Nat.le_of_ble_eq_true rfl, Nat.le_of_ble_eq_true rfl⟩ hl.1 (Nat.le_of_ble_eq_true rfl) dX9_gainsOwner_11 ⟨Nat.zero_le _, Nat.zero_le _⟩ (fun H locs hW => ?_)
  obtain ⟨i14, h⟩ := lb_chk_in h
  refine lb_ild X hW (show lb_ar 54 = 60 + 1 from rfl) i14 dX9_gainsOwner_14 ?_
  obtain ⟨q15, e15, h⟩ := lb_bind h
  refine rc_X9_63 X hW (show lb_ar 54 = 60 + 1 from rfl) e15 ⟨⟨rfl, rfl⟩, Nat.le_of_ble_eq_true rfl, Nat.le_of_ble_eq_true rfl⟩ hl.1 (Nat.le_of_ble_eq_true rfl) dX9_gainsOwner_15 ⟨Nat.zero_le _, Nat.zero_le _⟩ (fun H locs hW => ?_)
  obtain rfl := Option.some.inj h
  exact lb_iret X hW dX9_gainsOwner_18
theorem rc_X9_158 {p : Program} {l : Launch} {e : Env} {R : Room} {s : State} {m : MethodId} {args : Array Value} {below : List Frame} {meth : Method} {c : Code} {H : Heap} {locs : List Loc} {cells slots : Nat} {Q : State → Prop} {cc : ByteArray} {pc nL : Nat} {ls : Array Slot} {rest : List Value} {G : lb_G} {σ : lb_Mem} {ret : Option FieldType} (X : lb_C G p s m args meth c cc nL RX9 ret) (hW : lb_W G s σ H locs) {x1 : Int32} {qr : Int32} (h : f_X9_gainsOwner σ x1 = some qr) (hR : lb_room rmX9_gainsOwner R 2) (hls : ls.size = nL) (hrest : (rest.map fun v => v.category).sum ≤ 8) (d : decode cc pc = .ok (.invokevirtual 158, 3)) (hcap : cells ≤ R.cells ∧ slots ≤ R.slots) (kk : ∀ (H1 : Heap) (locs1 : List Loc), lb_W G s σ H1 locs1 → W p l e R s m args below meth c H1 locs1 cells slots Q (F0 m (pc + 3) ls (.int qr :: rest))) : W p l e R s m args below meth c H locs cells slots Q (F0 m pc ls (.int x1 :: .ref (lb_ad G 53) :: rest)) :=
  lb_goI hW (lb_runV (As := [.int x1]) X hW (m_X9_gainsOwner l G σ x1 qr h) (n := 1) ⟨qw_1017, qw_52, qw_1020, by decide +kernel⟩ hR qw_1019 qw_36 lb_is53 rfl hls hrest d hcap) kk
abbrev rmX9_worst : Room := { frames := 3, cells := 0, slots := 0, locals := 69 }
def f_X9_worst_21 : Nat → Int32 → Int32 → Int32 → lb_Mem → Option (Int32 × lb_Mem)
  | 0, _, _, _, _ => none
  | n + 1, x1, x2, x3, σ => if (σ 54 (0 : Int32).toNatClampNeg) ≤ x3 then if x1 = 0 then some (x2, σ) else if 0 ≤ x2 then (f_X9_gainsOwner σ x2).bind (fun q87 => some (q87, σ)) else some ((0 : Int32), σ) else lb_chk (lb_ix (f_X9_ofT x3 (4 : Int32)) 61) (if (σ 54 (f_X9_ofT x3 (4 : Int32)).toNatClampNeg) ≤ 0 then f_X9_worst_21 n x1 x2 (x3 + 1) σ else if x2 < 0 then f_X9_worst_21 n x1 x3 (x3 + 1) σ else (f_X9_gainsOwner σ x3).bind (fun q50 => (f_X9_gainsOwner σ x2).bind (fun q55 => if q55 ≤ q50 then f_X9_worst_21 n x1 x2 (x3 + 1) σ else f_X9_worst_21 n x1 x3 (x3 + 1) σ)))
set_option maxRecDepth 20000 in
set_option maxHeartbeats 4000000 in
theorem w_X9_worst_21 {p : Program} {l : Launch} {e : Env} {s : State} {m : MethodId} {args : Array Value} {below : List Frame} {meth : Method} {c : Code} {G : lb_G} {qr : (Int32 × lb_Mem)} (X : lb_C G p s m args meth c cX9_worst 4 RX9 (some .int)) : ∀ (n : Nat) (x1 : Int32) (x2 : Int32) (x3 : Int32) (σ : lb_Mem) (H : Heap) (locs : List Loc) (ls : Array Slot), f_X9_worst_21 n x1 x2 x3 σ = some qr → lb_W G s σ H locs → lv_has ls 4 [(0, .ref (lb_ad G 53)), (1, .int x1), (2, .int x2), (3, .int x3)] → W p l e rmX9_worst s m args below meth c H locs 0 0 (MQ below (lb_QI G qr.1 qr.2) args s 0 0 (lb_A G)) (F0 m 21 ls []) := by
  have hx := X.1
  have hb := X.2.1
  intro n
  induction n with
  | zero => intro x1 x2 x3 σ H locs ls h hW hl; exact absurd h (fun z => by cases z)
  | succ n ih =>
    intro x1 x2 x3 σ H locs ls h hW hl
    have h : (if (σ 54 (0 : Int32).toNatClampNeg) ≤ x3 then if x1 = 0 then some (x2, σ) else if 0 ≤ x2 then (f_X9_gainsOwner σ x2).bind (fun q87 => some (q87, σ)) else some ((0 : Int32), σ) else lb_chk (lb_ix (f_X9_ofT x3 (4 : Int32)) 61) (if (σ 54 (f_X9_ofT x3 (4 : Int32)).toNatClampNeg) ≤ 0 then f_X9_worst_21 n x1 x2 (x3 + 1) σ else if x2 < 0 then f_X9_worst_21 n x1 x3 (x3 + 1) σ else (f_X9_gainsOwner σ x3).bind (fun q50 => (f_X9_gainsOwner σ x2).bind (fun q55 => if q55 ≤ q50 then f_X9_worst_21 n x1 x2 (x3 + 1) σ else f_X9_worst_21 n x1 x3 (x3 + 1) σ)))) = some qr := h
    refine lv_iload_n hx hb dX9_worst_21 rfl (lv_at hl 3 rfl) ?_
    refine lv_aload_n hx hb dX9_worst_22 rfl (lv_at hl 0 rfl) ?_
    refine rg_X9_9 X hW dX9_worst_23 ?_
    refine lv_iconst (v := 0) hx hb dX9_worst_26 rfl ?_
    refine lb_ild X hW (show lb_ar 54 = 60 + 1 from rfl) (lb_inC rfl) dX9_worst_27 ?_
    refine lv_icmp_ge (tgt := 69) hx hb dX9_worst_28 (by decide) (fun c28 => ?_) (fun c28 => ?_)
    · have h := (if_pos c28).symm.trans h
      refine lv_iload_n hx hb dX9_worst_69 rfl (lv_at hl 1 rfl) ?_
      refine lv_if_ne (tgt := 77) hx hb dX9_worst_70 (by decide) (fun c70 => ?_) (fun c70 => ?_)
      · have h := (if_neg c70).symm.trans h
        refine lv_iload_n hx hb dX9_worst_77 rfl (lv_at hl 2 rfl) ?_
        refine lv_if_ge (tgt := 85) hx hb dX9_worst_78 (by decide) (fun c78 => ?_) (fun c78 => ?_)
        · have h := (if_pos c78).symm.trans h
          refine lv_aload_n hx hb dX9_worst_85 rfl (lv_at hl 0 rfl) ?_
          refine lv_iload_n hx hb dX9_worst_86 rfl (lv_at hl 2 rfl) ?_
          obtain ⟨q87, e87, h⟩ := lb_bind h
          refine rc_X9_158 X hW e87 ⟨⟨rfl, rfl⟩, Nat.le_of_ble_eq_true rfl, Nat.le_of_ble_eq_true rfl⟩ hl.1 (Nat.le_of_ble_eq_true rfl) dX9_worst_87 ⟨Nat.zero_le _, Nat.zero_le _⟩ (fun H locs hW => ?_)
          obtain rfl := Option.some.inj h
          exact lb_iret X hW dX9_worst_90
        · have h := (if_neg c78).symm.trans h
          refine lv_iconst (v := 0) hx hb dX9_worst_81 rfl ?_
          refine lv_goto (tgt := 90) hx hb dX9_worst_82 (by decide) ?_
          obtain rfl := Option.some.inj h
          exact lb_iret X hW dX9_worst_90
      · have h := (if_pos c70).symm.trans h
        refine lv_iload_n hx hb dX9_worst_73 rfl (lv_at hl 2 rfl) ?_
        refine lv_goto (tgt := 90) hx hb dX9_worst_74 (by decide) ?_
        obtain rfl := Option.some.inj h
        exact lb_iret X hW dX9_worst_90
    · have h := (if_neg c28).symm.trans h
      refine lv_aload_n hx hb dX9_worst_31 rfl (lv_at hl 0 rfl) ?_
      refine rg_X9_9 X hW dX9_worst_32 ?_
      refine lv_iload_n hx hb dX9_worst_35 rfl (lv_at hl 3 rfl) ?_
      refine lv_iconst (v := 4) hx hb dX9_worst_36 rfl ?_
      refine rc_X9_45 X hW x3 (4 : Int32) ⟨⟨rfl, rfl⟩, Nat.le_of_ble_eq_true rfl, Nat.le_of_ble_eq_true rfl⟩ hl.1 (Nat.le_of_ble_eq_true rfl) dX9_worst_37 ⟨Nat.zero_le _, Nat.zero_le _⟩ (fun H locs hW => ?_)
      obtain ⟨i40, h⟩ := lb_chk_in h
      refine lb_ild X hW (show lb_ar 54 = 60 + 1 from rfl) i40 dX9_worst_40 ?_
      refine lv_if_le (tgt := 63) hx hb dX9_worst_41 (by decide) (fun c41 => ?_) (fun c41 => ?_)
      · have h := (if_pos c41).symm.trans h
        refine lv_iinc (v := (x3 + 1)) (lv' := [(3, .int (x3 + 1)), (0, .ref (lb_ad G 53)), (1, .int x1), (2, .int x2)]) hx hb dX9_worst_63 hl (k := 3) rfl rfl (by decide) rfl (fun ls hl => ?_)
        refine lv_goto (tgt := 21) hx hb dX9_worst_66 (by decide) ?_
        exact ih x1 x2 (x3 + 1) σ _ _ _ h hW (lv_sub hl [1, 2, 3, 0] rfl)
      · have h := (if_neg c41).symm.trans h
        refine lv_iload_n hx hb dX9_worst_44 rfl (lv_at hl 2 rfl) ?_
        refine lv_if_lt (tgt := 61) hx hb dX9_worst_45 (by decide) (fun c45 => ?_) (fun c45 => ?_)
        · have h := (if_pos c45).symm.trans h
          refine lv_iload_n hx hb dX9_worst_61 rfl (lv_at hl 3 rfl) ?_
          refine lv_istore_n (lv' := [(2, .int x3), (0, .ref (lb_ad G 53)), (1, .int x1), (3, .int x3)]) hx hb dX9_worst_62 rfl hl (by decide) rfl (fun ls hl => ?_)
          refine lv_iinc (v := (x3 + 1)) (lv' := [(3, .int (x3 + 1)), (2, .int x3), (0, .ref (lb_ad G 53)), (1, .int x1)]) hx hb dX9_worst_63 hl (k := 3) rfl rfl (by decide) rfl (fun ls hl => ?_)
          refine lv_goto (tgt := 21) hx hb dX9_worst_66 (by decide) ?_
          exact ih x1 x3 (x3 + 1) σ _ _ _ h hW (lv_sub hl [2, 3, 1, 0] rfl)
        · have h := (if_neg c45).symm.trans h
          refine lv_aload_n hx hb dX9_worst_48 rfl (lv_at hl 0 rfl) ?_
          refine lv_iload_n hx hb dX9_worst_49 rfl (lv_at hl 3 rfl) ?_
          obtain ⟨q50, e50, h⟩ := lb_bind h
          refine rc_X9_158 X hW e50 ⟨⟨rfl, rfl⟩, Nat.le_of_ble_eq_true rfl, Nat.le_of_ble_eq_true rfl⟩ hl.1 (Nat.le_of_ble_eq_true rfl) dX9_worst_50 ⟨Nat.zero_le _, Nat.zero_le _⟩ (fun H locs hW => ?_)
          refine lv_aload_n hx hb dX9_worst_53 rfl (lv_at hl 0 rfl) ?_
          refine lv_iload_n hx hb dX9_worst_54 rfl (lv_at hl 2 rfl) ?_
          obtain ⟨q55, e55, h⟩ := lb_bind h
          refine rc_X9_158 X hW e55 ⟨⟨rfl, rfl⟩, Nat.le_of_ble_eq_true rfl, Nat.le_of_ble_eq_true rfl⟩ hl.1 (Nat.le_of_ble_eq_true rfl) dX9_worst_55 ⟨Nat.zero_le _, Nat.zero_le _⟩ (fun H locs hW => ?_)
          refine lv_icmp_ge (tgt := 63) hx hb dX9_worst_58 (by decide) (fun c58 => ?_) (fun c58 => ?_)
          · have h := (if_pos c58).symm.trans h
            refine lv_iinc (v := (x3 + 1)) (lv' := [(3, .int (x3 + 1)), (0, .ref (lb_ad G 53)), (1, .int x1), (2, .int x2)]) hx hb dX9_worst_63 hl (k := 3) rfl rfl (by decide) rfl (fun ls hl => ?_)
            refine lv_goto (tgt := 21) hx hb dX9_worst_66 (by decide) ?_
            exact ih x1 x2 (x3 + 1) σ _ _ _ h hW (lv_sub hl [1, 2, 3, 0] rfl)
          · have h := (if_neg c58).symm.trans h
            refine lv_iload_n hx hb dX9_worst_61 rfl (lv_at hl 3 rfl) ?_
            refine lv_istore_n (lv' := [(2, .int x3), (0, .ref (lb_ad G 53)), (1, .int x1), (3, .int x3)]) hx hb dX9_worst_62 rfl hl (by decide) rfl (fun ls hl => ?_)
            refine lv_iinc (v := (x3 + 1)) (lv' := [(3, .int (x3 + 1)), (2, .int x3), (0, .ref (lb_ad G 53)), (1, .int x1)]) hx hb dX9_worst_63 hl (k := 3) rfl rfl (by decide) rfl (fun ls hl => ?_)
            refine lv_goto (tgt := 21) hx hb dX9_worst_66 (by decide) ?_
            exact ih x1 x3 (x3 + 1) σ _ _ _ h hW (lv_sub hl [2, 3, 1, 0] rfl)
def f_X9_worst (x1 : Int32) (σ : lb_Mem) : Option (Int32 × lb_Mem) := if (f_X9_isIn x1 (0 : Int32) (1 : Int32)) = 0 then (f_X9_noFar (-2 : Int32) σ).bind (fun q12 => some (q12.1, q12.2)) else f_X9_worst_21 lb_N x1 (-9 : Int32) (0 : Int32) σ
set_option maxRecDepth 20000 in
set_option maxHeartbeats 4000000 in
theorem m_X9_worst (l : Launch) (G : lb_G) (σ : lb_Mem) (x1 : Int32) (qr : (Int32 × lb_Mem)) (h : f_X9_worst x1 σ = some qr) : lb_M l yX9_worst cX9_worst 4 (some .int) rmX9_worst [.ref (lb_ad G 53), .int x1] G σ (lb_QI G qr.1 qr.2) := by
  refine lb_start RX9 (by decide +kernel) rfl (Nat.le_of_ble_eq_true rfl) (fun p e s m below meth c X hW ls hl => ?_)
  have hx := X.1
  have hb := X.2.1
  have hl : lv_has ls 4 [(0, .ref (lb_ad G 53)), (1, .int x1)] := hl
  have h : (if (f_X9_isIn x1 (0 : Int32) (1 : Int32)) = 0 then (f_X9_noFar (-2 : Int32) σ).bind (fun q12 => some (q12.1, q12.2)) else f_X9_worst_21 lb_N x1 (-9 : Int32) (0 : Int32) σ) = some qr := h
  skip
  refine lv_iload_n hx hb dX9_worst_0 rfl (lv_at hl 1 rfl) ?_
  refine lv_iconst (v := 0) hx hb dX9_worst_1 rfl ?_
  refine lv_iconst (v := 1) hx hb dX9_worst_2 rfl ?_
  refine rc_X9_41 X hW x1 (0 : Int32) (1 : Int32) ⟨⟨rfl, rfl⟩, Nat.le_of_ble_eq_true rfl, Nat.le_of_ble_eq_true rfl⟩ hl.1 (Nat.le_of_ble_eq_true rfl) dX9_worst_3 ⟨Nat.zero_le _, Nat.zero_le _⟩ (fun H locs hW => ?_)
  refine lv_if_ne (tgt := 16) hx hb dX9_worst_6 (by decide) (fun c6 => ?_) (fun c6 => ?_)
  · have h := (if_neg c6).symm.trans h
    refine lv_bipush (v := -9) hx hb dX9_worst_16 rfl ?_
    refine lv_istore_n (lv' := [(2, .int (-9 : Int32)), (0, .ref (lb_ad G 53)), (1, .int x1)]) hx hb dX9_worst_18 rfl hl (by decide) rfl (fun ls hl => ?_)
    refine lv_iconst (v := 0) hx hb dX9_worst_19 rfl ?_
    refine lv_istore_n (lv' := [(3, .int (0 : Int32)), (2, .int (-9 : Int32)), (0, .ref (lb_ad G 53)), (1, .int x1)]) hx hb dX9_worst_20 rfl hl (by decide) rfl (fun ls hl => ?_)
    exact w_X9_worst_21 X lb_N x1 (-9 : Int32) (0 : Int32) σ _ _ _ h hW (lv_sub hl [2, 3, 1, 0] rfl)
  · have h := (if_pos c6).symm.trans h
    refine lv_aload_n hx hb dX9_worst_9 rfl (lv_at hl 0 rfl) ?_
    refine lv_bipush (v := -2) hx hb dX9_worst_10 rfl ?_
    obtain ⟨q12, e12, h⟩ := lb_bind h
    refine rc_X9_122 X hW e12 ⟨⟨rfl, rfl⟩, Nat.le_of_ble_eq_true rfl, Nat.le_of_ble_eq_true rfl⟩ hl.1 (Nat.le_of_ble_eq_true rfl) dX9_worst_12 ⟨Nat.zero_le _, Nat.zero_le _⟩ (fun H locs hW => ?_)
    obtain rfl := Option.some.inj h
    exact lb_iret X hW dX9_worst_15
