def lb_adf (q0 : Nat) (v1 v2 v3 w : Nat → Nat) (r1 r2 : Nat) (u : Nat → Nat) : Nat → Nat := fun k => if k = 0 then q0 else if k < 17 then v1 (k - 1) else if k < 33 then v2 (k - 17) else if k < 49 then v3 (k - 33) else if k < 51 then w (k - 49) else if k = 51 then r1 else if k = 52 then r2 else u (k - 53)
abbrev lb_Gf (D : va_G) (cI cJ : ClassId) (q0 : Nat) (v1 v2 v3 w : Nat → Nat) (r1 r2 : Nat) (u sK sV : Nat → Nat) : lb_G := (D, cI, cJ, lb_adf q0 v1 v2 v3 w r1 r2 u, sK, sV)
set_option maxRecDepth 20000 in
theorem lb_place (D : va_G) (cI cJ : ClassId) (q0 : Nat) (v1 v2 v3 w : Nat → Nat) (r1 r2 : Nat) (u sK sV : Nat → Nat) : ∀ k, k < 62 → ∃ e, (lb_xl cI cJ q0 v1 v2 v3 w r1 r2 ++ lb_ml cI cJ u)[k]? = some (lb_ad (lb_Gf D cI cJ q0 v1 v2 v3 w r1 r2 u sK sV) k, e) ∧ ∀ H, va_at D vwCl (lb_ad (lb_Gf D cI cJ q0 v1 v2 v3 w r1 r2 u sK sV) k, e) H → va_at D vwCl (lb_ad (lb_Gf D cI cJ q0 v1 v2 v3 w r1 r2 u sK sV) k, lb_cell (lb_Gf D cI cJ q0 v1 v2 v3 w r1 r2 u sK sV) k (fun _ => 0)) H := by
  intro k hk
  match k, hk with
  | 0, _ => exact ⟨_, rfl, fun H h => h⟩
  | 1, _ => exact ⟨_, rfl, fun H h => h⟩
  | 2, _ => exact ⟨_, rfl, fun H h => by
      show H[_]? = some (vp_cell cJ (6, .inr (.inr (.inr (.inr _)))))
      rw [← lb_refs (f := fun j => some (v1 (2 + j))) (fun j hj => by rcases (show j = 0 ∨ j = 1 ∨ j = 2 ∨ j = 3 ∨ j = 4 ∨ j = 5 by omega) with rfl | rfl | rfl | rfl | rfl | rfl <;> rfl)]
      exact h⟩
  | 3, _ => exact ⟨_, rfl, fun H h => h⟩
  | 4, _ => exact ⟨_, rfl, fun H h => h⟩
  | 5, _ => exact ⟨_, rfl, fun H h => h⟩
  | 6, _ => exact ⟨_, rfl, fun H h => h⟩
  | 7, _ => exact ⟨_, rfl, fun H h => h⟩
  | 8, _ => exact ⟨_, rfl, fun H h => h⟩
  | 9, _ => exact ⟨_, rfl, fun H h => h⟩
  | 10, _ => exact ⟨_, rfl, fun H h => h⟩
  | 11, _ => exact ⟨_, rfl, fun H h => h⟩
  | 12, _ => exact ⟨_, rfl, fun H h => h⟩
  | 13, _ => exact ⟨_, rfl, fun H h => h⟩
  | 14, _ => exact ⟨_, rfl, fun H h => h⟩
  | 15, _ => exact ⟨_, rfl, fun H h => h⟩
  | 16, _ => exact ⟨_, rfl, fun H h => h⟩
  | 17, _ => exact ⟨_, rfl, fun H h => h⟩
  | 18, _ => exact ⟨_, rfl, fun H h => by
      show H[_]? = some (vp_cell cJ (6, .inr (.inr (.inr (.inr _)))))
      rw [← lb_refs (f := fun j => some (v2 (2 + j))) (fun j hj => by rcases (show j = 0 ∨ j = 1 ∨ j = 2 ∨ j = 3 ∨ j = 4 ∨ j = 5 by omega) with rfl | rfl | rfl | rfl | rfl | rfl <;> rfl)]
      exact h⟩
  | 19, _ => exact ⟨_, rfl, fun H h => h⟩
  | 20, _ => exact ⟨_, rfl, fun H h => h⟩
  | 21, _ => exact ⟨_, rfl, fun H h => h⟩
  | 22, _ => exact ⟨_, rfl, fun H h => h⟩
  | 23, _ => exact ⟨_, rfl, fun H h => h⟩
  | 24, _ => exact ⟨_, rfl, fun H h => h⟩
  | 25, _ => exact ⟨_, rfl, fun H h => h⟩
  | 26, _ => exact ⟨_, rfl, fun H h => h⟩
  | 27, _ => exact ⟨_, rfl, fun H h => h⟩
  | 28, _ => exact ⟨_, rfl, fun H h => h⟩
  | 29, _ => exact ⟨_, rfl, fun H h => h⟩
  | 30, _ => exact ⟨_, rfl, fun H h => h⟩
  | 31, _ => exact ⟨_, rfl, fun H h => h⟩
  | 32, _ => exact ⟨_, rfl, fun H h => h⟩
  | 33, _ => exact ⟨_, rfl, fun H h => h⟩
  | 34, _ => exact ⟨_, rfl, fun H h => by
      show H[_]? = some (vp_cell cJ (6, .inr (.inr (.inr (.inr _)))))
      rw [← lb_refs (f := fun j => some (v3 (2 + j))) (fun j hj => by rcases (show j = 0 ∨ j = 1 ∨ j = 2 ∨ j = 3 ∨ j = 4 ∨ j = 5 by omega) with rfl | rfl | rfl | rfl | rfl | rfl <;> rfl)]
      exact h⟩
  | 35, _ => exact ⟨_, rfl, fun H h => h⟩
  | 36, _ => exact ⟨_, rfl, fun H h => h⟩
  | 37, _ => exact ⟨_, rfl, fun H h => h⟩
  | 38, _ => exact ⟨_, rfl, fun H h => h⟩
  | 39, _ => exact ⟨_, rfl, fun H h => h⟩
  | 40, _ => exact ⟨_, rfl, fun H h => h⟩
  | 41, _ => exact ⟨_, rfl, fun H h => h⟩
  | 42, _ => exact ⟨_, rfl, fun H h => h⟩
  | 43, _ => exact ⟨_, rfl, fun H h => h⟩
  | 44, _ => exact ⟨_, rfl, fun H h => h⟩
  | 45, _ => exact ⟨_, rfl, fun H h => h⟩
  | 46, _ => exact ⟨_, rfl, fun H h => h⟩
  | 47, _ => exact ⟨_, rfl, fun H h => h⟩
  | 48, _ => exact ⟨_, rfl, fun H h => h⟩
  | 49, _ => exact ⟨_, rfl, fun H h => h⟩
  | 50, _ => exact ⟨_, rfl, fun H h => h⟩
  | 51, _ => exact ⟨_, rfl, fun H h => h⟩
  | 52, _ => exact ⟨_, rfl, fun H h => h⟩
  | 53, _ => exact ⟨_, rfl, fun H h => h⟩
  | 54, _ => exact ⟨_, rfl, fun H h => h⟩
  | 55, _ => exact ⟨_, rfl, fun H h => h⟩
  | 56, _ => exact ⟨_, rfl, fun H h => h⟩
  | 57, _ => exact ⟨_, rfl, fun H h => h⟩
  | 58, _ => exact ⟨_, rfl, fun H h => h⟩
  | 59, _ => exact ⟨_, rfl, fun H h => h⟩
  | 60, _ => exact ⟨_, rfl, fun H h => h⟩
  | 61, _ => exact ⟨_, rfl, fun H h => h⟩
  | k + 62, h => exact absurd h (by omega)
set_option maxRecDepth 100000 in
set_option maxHeartbeats 4000000 in
theorem whole_open {p : Program} {e : Env} {s : State} {m : MethodId} {below : List Frame} {meth : Method} {c : Code} (l : Launch) {b L : Nat} {xs : Nat → Int32} (hL : L ≤ 3072) (C0 : lw_At p s m meth c b L xs) {Rel : lb_Mem → Prop} (hst : lb_steps Rel) (hr0 : Rel (fun _ _ => 0)) : W p l e room_1 s m #[Value.ref b] below meth c s.heap [] 0 0 (lw_Z below #[Value.ref b] s) (entryFrame m ([Value.ref b] : List Value).toArray 4) := by
  obtain ⟨hx, hb, hr, hml, hown, htsL, hX, hbl, hlocks, hgv⟩ := id C0
  have hown : s.vm.findClass RL = some m.cls := hown
  have hts : ∀ w ∈ lb_tbl, w.before #[Value.ref b] s = true := fun w h => htsL w (lb_sub w h)
  have hfl := flat_of_before _ hgv
  obtain ⟨c0, iS0, hKn0⟩ := u_known (C := RX0) (T := TX0) (N := 0) (n := 0) hts lb_in0 (hts _ qw_98)
  obtain ⟨c1, iS1, hKn1⟩ := u_known (C := RX1) (T := TX1) (N := 0) (n := 0) hts lb_in1 (hts _ qw_112)
  obtain ⟨c2, iS2, hKn2⟩ := u_known (C := RX2) (T := TX2) (N := 0) (n := 0) hts lb_in2 (hts _ qw_105)
  obtain ⟨c3, iS3, hKn3⟩ := u_known (C := RX3) (T := TX3) (N := 0) (n := 0) hts lb_in3 (hts _ qw_77)
  obtain ⟨c4, iS4, hKn4⟩ := u_known (C := RX4) (T := TX4) (N := 2) (n := 2) hts lb_in4 (hts _ qw_168)
  obtain ⟨c5, iS5, hKn5⟩ := u_known (C := RX5) (T := TX5) (N := 0) (n := 0) hts lb_in5 (hts _ qw_91)
  obtain ⟨c6, iS6, hKn6⟩ := u_known (C := RX6) (T := TX6) (N := 0) (n := 0) hts lb_in6 (hts _ qw_84)
  obtain ⟨c7, iS7, hKn7⟩ := u_known (C := RX7) (T := TX7) (N := 12) (n := 12) hts lb_in7 (hts _ qw_70)
  obtain ⟨c8, iS8, hKn8⟩ := u_known (C := RX8) (T := TX8) (N := 8) (n := 8) hts lb_in8 (hts _ qw_62)
  obtain ⟨c9, iS9, hKn9⟩ := u_known (C := RX9) (T := TX9) (N := 13) (n := 13) hts lb_in9 (hts _ qw_761)
  obtain ⟨D, hKc⟩ : ∃ D : va_G, ∀ (k : Nat) (q : vw_C), vwCl[k]? = some q → u_Kn s q.1 q.2.1 q.2.2 (D.1 k) (D.2 k) := by
    refine ⟨(fun k => if k = 0 then c0 else if k = 1 then c1 else if k = 2 then c2 else if k = 3 then c3 else if k = 4 then c4 else if k = 5 then c5 else if k = 6 then c6 else if k = 7 then c7 else if k = 8 then c8 else c9, fun k => if k = 0 then iS0 else if k = 1 then iS1 else if k = 2 then iS2 else if k = 3 then iS3 else if k = 4 then iS4 else if k = 5 then iS5 else if k = 6 then iS6 else if k = 7 then iS7 else if k = 8 then iS8 else iS9), ?_⟩
    intro k q hq
    match k, hq with
    | 0, hq => cases hq; exact hKn0
    | 1, hq => cases hq; exact hKn1
    | 2, hq => cases hq; exact hKn2
    | 3, hq => cases hq; exact hKn3
    | 4, hq => cases hq; exact hKn4
    | 5, hq => cases hq; exact hKn5
    | 6, hq => cases hq; exact hKn6
    | 7, hq => cases hq; exact hKn7
    | 8, hq => cases hq; exact hKn8
    | 9, hq => cases hq; exact hKn9
    | k + 10, hq => simp [vwCl] at hq
  obtain ⟨cI, kI, compI, f1, f2, f3⟩ := Cond.arrayClass_spec (hts (Cond.arrayClass .int) qw_166)
  obtain ⟨compJ, cJ, kJ, g1, g2, g3, g4, g5⟩ := Cond.arrayOver_spec (n := RX3) (htsL (Cond.arrayOver (.object RX3)) (List.mem_of_getElem? (i := 76) (by decide +kernel)))
  have hK : va_K D vwCl (lb_ty cI cJ) s := by
    refine ⟨hKc, fun k q hq => ?_⟩
    match k, hq with
    | 0, hq => cases hq; exact ⟨fun n z => ⟨fun k h => (by cases h), kI, f2, compI, f3⟩, f1⟩
    | 1, hq => cases hq; exact ⟨fun n z => ⟨fun k h => (by cases h), kJ, g3, compJ, g4⟩, kJ, compJ, g3, g4, g1, g5⟩
    | k + 2, hq => simp at hq
  have hE : lb_E s := ⟨va_AO.of (htsL (Cond.arrayOver (.object RX3)) (List.mem_of_getElem? (i := 76) (by decide +kernel))), va_Nw.of rfl (htsL (Cond.castable RX6 RX3) (List.mem_of_getElem? (i := 1130) (by decide +kernel))), va_Nw.of rfl (htsL (Cond.castable RX5 RX3) (List.mem_of_getElem? (i := 1131) (by decide +kernel))), va_Nw.of rfl (htsL (Cond.castable RX0 RX3) (List.mem_of_getElem? (i := 1132) (by decide +kernel))), va_Nw.of rfl (htsL (Cond.castable RX2 RX3) (List.mem_of_getElem? (i := 1133) (by decide +kernel))), va_Nw.of rfl (htsL (Cond.castable RX1 RX3) (List.mem_of_getElem? (i := 1134) (by decide +kernel)))⟩
  have hAold : ∀ a : Nat, a < s.heap.size → ¬ (fun q : Nat => s.heap.size ≤ q) a := fun a h z => absurd h (Nat.not_lt.mpr z)
  obtain ⟨sK, sV, hStr, hEv⟩ := vk_Sof (args := #[Value.ref b]) (s := s) (N := 1) (tm := fun _ => Term.string RX4 23) (len := [6]) (byt := [[106, 116, 115, 97, 104, 98]]) (A := fun q : Nat => s.heap.size ≤ q)
    (fun i hi => by obtain rfl : i = 0 := by omega
                    decide)
    (fun i hi => hfl _ (by decide +kernel)) (fun i hi => hfl _ (by decide +kernel)) (fun i hi => hfl _ (by decide +kernel))
    (fun i hi => by obtain rfl : i = 0 := by omega
                    exact hfl _ (by decide +kernel))
    (fun i hi j hj => by
      obtain rfl : i = 0 := by omega
      have hj : j < 6 := hj
      rcases (show j = 0 ∨ j = 1 ∨ j = 2 ∨ j = 3 ∨ j = 4 ∨ j = 5 by omega) with rfl | rfl | rfl | rfl | rfl | rfl <;> exact hfl _ (by decide +kernel))
    (fun i j hi hj hij => absurd (show i = j by omega) hij) hAold
  have hZ : va_Z "java/lang/String" "COMPACT_STRINGS" "Z" (.int 1) (fun q : Nat => s.heap.size ≤ q) s s.heap := va_Zof (args := #[Value.ref b]) (htsL (Cond.laysStatic "java/lang/String" "COMPACT_STRINGS" "Z") (List.mem_of_getElem? (i := 262) (by decide +kernel))) (hts _ qw_53) (va_eqt (hfl (Cond.eq (Term.static "java/lang/String" "COMPACT_STRINGS" "Z") (Term.int 1)) (by decide +kernel))) hAold
  have hRf : vk_R RX4 23 "jtsahb" (sK 0) s := vk_R.of (htsL (Cond.stringRef RX4 23 "jtsahb") (List.mem_of_getElem? (i := 248) (by decide +kernel))) (hEv 0 (by decide))
  have hA : ∀ q : Nat, s.heap.size ≤ q → (fun q : Nat => s.heap.size ≤ q) q := fun _ h => h
  have hS : va_S (fun q : Nat => s.heap.size ≤ q) s.heap s.heap [] := va_S.rf
  have hP : va_P D vwCl [] s.heap := fun k q h => by simp at h
  have hD : va_D (fun q : Nat => s.heap.size ≤ q) [] := ⟨fun i j p q h => by simp at h, fun k q h => by simp at h⟩
  have hl := lv_entry ([.ref b]) (n := 4) (Nat.le_of_ble_eq_true rfl)
  rw [lg_entry_eq]
  generalize (lg_sl ([.ref b]) ++ List.replicate (4 - (lg_sl ([.ref b])).length) Slot.unset).toArray = ls at hl ⊢
  have hl : lv_has ls 4 [(0, .ref b)] := hl
  refine va_new (ci := 8) (fs := [.null, .null, .null, .int 0, .null, .null, .int 0, .null]) (C := RX8) (T := TX8) (N := 8) hx hb hts lb_in8 tyX8 tyX8_ok hown (hts _ qw_61) (hts _ qw_62) (hts _ qw_43) hK hP hD hS hA rfl (fun j hj => by rcases (show j = 0 ∨ j = 1 ∨ j = 2 ∨ j = 3 ∨ j = 4 ∨ j = 5 ∨ j = 6 ∨ j = 7 by omega) with rfl | rfl | rfl | rfl | rfl | rfl | rfl | rfl <;> rfl) (Nat.le_of_ble_eq_true rfl) (Nat.le_of_ble_eq_true rfl) dL_law_0 (fun q0 H hP hD hS => ?_)
  have hP : va_P D vwCl [(q0, .inr (8, [.null, .null, .null, .int 0, .null, .null, .int 0, .null]))] H := hP
  have hD : va_D (fun q : Nat => s.heap.size ≤ q) [(q0, .inr (8, [.null, .null, .null, .int 0, .null, .null, .int 0, .null]))] := hD
  refine W.widen (k := 1) (n := 8) (Nat.le_of_ble_eq_true rfl) (Nat.le_of_ble_eq_true rfl) ?_
  refine lv_dup hx hb dL_law_3 rfl ?_
  have hPc := hP.sub (ws' := [(q0, .inr (8, [.null, .null, .null, .int 0, .null, .null, .int 0, .null]))]) [0] rfl
  have hDc := hD.sub (ws' := [(q0, .inr (8, [.null, .null, .null, .int 0, .null, .null, .int 0, .null]))]) [0] (by decide) rfl
  have hFc := va_free (wc := [(q0, .inr (8, [.null, .null, .null, .int 0, .null, .null, .int 0, .null]))]) hD hS hA [0] rfl
  refine va_callv (va_runI (Ts := lb_tbl) (As := []) (rest := [.ref q0]) ⟨hx, hb, hml, hown, hts⟩ (i_X8 l D cI cJ q0 H.size) (cwI 0 hts (lb_goodWs qw_65) rfl rfl rfl (hts _ qw_43) (hts _ qw_63) (hts _ qw_64) rfl (by decide +kernel) ⟨Nat.le_of_ble_eq_true rfl, Nat.le_of_ble_eq_true rfl⟩) ⟨fun a U g mk q => by obtain ⟨q0, q1, qP, qK, qD, qE⟩ := q; exact ⟨q0, q1, qP, va_K.moved (u := U) (U := U.calling g mk a) (Vm.Alike.refl U.vm) qK, qD, qE.same rfl⟩, fun U hU hW => ⟨rfl, by rw [hU], by rw [hU]; exact hPc, va_K.moved hW.alike hK, hDc.weaken (fun _ _ _ _ => trivial), hE.next hW⟩⟩ rfl rfl hl.1 rfl (lv_room (Nat.le_of_ble_eq_true rfl)) dL_law_4 ⟨Nat.le_of_ble_eq_true rfl, Nat.le_of_ble_eq_true rfl⟩) hS (fun q _ h => hFc q h) hFc (fun uu t H1 locs ht hvm hw hB hz1 hk1 hS => ?_)
  obtain ⟨v1, v2, v3, w, r1, r2⟩ := uu
  obtain ⟨hP1, hD1⟩ := hB
  rw [ht] at hP1
  have hP : va_P D vwCl (lb_xl cI cJ q0 v1 v2 v3 w r1 r2) H1 := hP1
  have hD : va_D (fun q : Nat => s.heap.size ≤ q) (lb_xl cI cJ q0 v1 v2 v3 w r1 r2) := hD1.weaken (fun k q _ h => hFc q.1 h)
  generalize H1 = H at hP hS ⊢
  refine W.widen (k := 53) (n := 357) (Nat.le_of_ble_eq_true rfl) (Nat.le_of_ble_eq_true rfl) ?_
  refine lv_astore_n (lv' := [(1, .ref q0), (0, .ref b)]) hx hb dL_law_7 rfl hl (by decide) rfl (fun ls hl => ?_)
  refine va_new (ci := 9) (fs := [.null, .null, .null, .null, .int 0, .null, .null, .null, .int 0, .int 0, .int 0, .null, .int 0]) (C := RX9) (T := TX9) (N := 13) hx hb hts lb_in9 tyX9 tyX9_ok hown (hts _ qw_760) (hts _ qw_761) (hts _ qw_52) hK hP hD hS hA rfl (fun j hj => by rcases (show j = 0 ∨ j = 1 ∨ j = 2 ∨ j = 3 ∨ j = 4 ∨ j = 5 ∨ j = 6 ∨ j = 7 ∨ j = 8 ∨ j = 9 ∨ j = 10 ∨ j = 11 ∨ j = 12 by omega) with rfl | rfl | rfl | rfl | rfl | rfl | rfl | rfl | rfl | rfl | rfl | rfl | rfl <;> rfl) (Nat.le_of_ble_eq_true rfl) (Nat.le_of_ble_eq_true rfl) dL_law_8 (fun q1 H hP hD hS => ?_)
  have hP : va_P D vwCl (lb_xl cI cJ q0 v1 v2 v3 w r1 r2 ++ [(q1, .inr (9, [.null, .null, .null, .null, .int 0, .null, .null, .null, .int 0, .int 0, .int 0, .null, .int 0]))]) H := hP
  have hD : va_D (fun q : Nat => s.heap.size ≤ q) (lb_xl cI cJ q0 v1 v2 v3 w r1 r2 ++ [(q1, .inr (9, [.null, .null, .null, .null, .int 0, .null, .null, .null, .int 0, .int 0, .int 0, .null, .int 0]))]) := hD
  refine W.widen (k := 54) (n := 370) (Nat.le_of_ble_eq_true rfl) (Nat.le_of_ble_eq_true rfl) ?_
  refine lv_dup hx hb dL_law_11 rfl ?_
  have hPc := hP.sub (ws' := [(q1, .inr (9, [.null, .null, .null, .null, .int 0, .null, .null, .null, .int 0, .int 0, .int 0, .null, .int 0]))]) [53] rfl
  have hDc := hD.sub (ws' := [(q1, .inr (9, [.null, .null, .null, .null, .int 0, .null, .null, .null, .int 0, .int 0, .int 0, .null, .int 0]))]) [53] (by decide) rfl
  have hFc := va_free (wc := [(q1, .inr (9, [.null, .null, .null, .null, .int 0, .null, .null, .null, .int 0, .int 0, .int 0, .null, .int 0]))]) hD hS hA [53] rfl
  refine va_callv (va_runI (Ts := lb_tbl) (As := []) (rest := [.ref q1]) ⟨hx, hb, hml, hown, hts⟩ (i_X9 l D cI cJ q1 H.size) (cwI 0 hts (lb_goodWs qw_764) rfl rfl rfl (hts _ qw_52) (hts _ qw_762) (hts _ qw_763) rfl (by decide +kernel) ⟨Nat.le_of_ble_eq_true rfl, Nat.le_of_ble_eq_true rfl⟩) ⟨fun a U g mk q => by obtain ⟨q0, q1, qP, qK, qD, qE⟩ := q; exact ⟨q0, q1, qP, va_K.moved (u := U) (U := U.calling g mk a) (Vm.Alike.refl U.vm) qK, qD, qE.same rfl⟩, fun U hU hW => ⟨rfl, by rw [hU], by rw [hU]; exact hPc, va_K.moved hW.alike hK, hDc.weaken (fun _ _ _ _ => trivial), hE.next hW⟩⟩ rfl rfl hl.1 rfl (lv_room (Nat.le_of_ble_eq_true rfl)) dL_law_12 ⟨Nat.le_of_ble_eq_true rfl, Nat.le_of_ble_eq_true rfl⟩) hS (fun q _ h => hFc q h) hFc (fun u t H1 locs ht hvm hw hB hz1 hk1 hS => ?_)
  obtain ⟨hu0, hP1, hD1⟩ := hB
  rw [ht] at hP1
  obtain ⟨hP2, hD2⟩ := va_join (wr := lb_xl cI cJ q0 v1 v2 v3 w r1 r2) (w1 := lb_ml cI cJ u) hP hD [53] [0, 1, 2, 3, 4, 5, 6, 7, 8, 9, 10, 11, 12, 13, 14, 15, 16, 17, 18, 19, 20, 21, 22, 23, 24, 25, 26, 27, 28, 29, 30, 31, 32, 33, 34, 35, 36, 37, 38, 39, 40, 41, 42, 43, 44, 45, 46, 47, 48, 49, 50, 51, 52] rfl rfl (by decide) (by decide) hk1 hFc hP1 hD1
  generalize H1 = H at hP2 hS ⊢
  subst hu0
  refine W.widen (k := 62) (n := 739) (Nat.le_of_ble_eq_true rfl) (Nat.le_of_ble_eq_true rfl) ?_
  refine lv_astore_n (lv' := [(2, .ref (u 0)), (1, .ref q0), (0, .ref b)]) hx hb dL_law_15 rfl hl (by decide) rfl (fun ls hl => ?_)
  refine lv_iconst (v := 0) hx hb dL_law_16 rfl ?_
  refine lv_istore_n (lv' := [(3, .int 0), (2, .ref (u 0)), (1, .ref q0), (0, .ref b)]) hx hb dL_law_17 rfl hl (by decide) rfl (fun ls hl => ?_)
  refine va_forget (fun q hq => hS.2.2 q hq) ?_
  have hpl := lb_place D cI cJ q0 v1 v2 v3 w r1 r2 u sK sV
  obtain ⟨G, eG⟩ : ∃ G : lb_G, G = lb_Gf D cI cJ q0 v1 v2 v3 w r1 r2 u sK sV := ⟨_, rfl⟩
  rw [← eG] at hpl
  have eD : G.1 = D := by rw [eG]
  have eI : lb_cI G = cI := by rw [eG]; rfl
  have eJ : lb_cJ G = cJ := by rw [eG]; rfl
  have eK : lb_sK G = sK := by rw [eG]; rfl
  have eV : lb_sV G = sV := by rw [eG]; rfl
  have e0 : lb_ad G 0 = q0 := by rw [eG]; rfl
  have e53 : lb_ad G 53 = u 0 := by rw [eG]; rfl
  have hinj : lb_inj G := by
    intro i j hi hj hij
    obtain ⟨e1, a1, -⟩ := hpl i hi
    obtain ⟨e2, a2, -⟩ := hpl j hj
    exact hD2.1 i j _ _ a1 a2 hij
  have hnew : ∀ q, lb_A G q → s.heap.size ≤ q := by
    rintro q ⟨k, hk, rfl⟩
    obtain ⟨e1, a1, -⟩ := hpl k hk
    exact hD2.2 k _ a1
  have hPw : va_P G.1 vwCl (lb_wl G (fun _ _ => 0)) H := by
    intro k q hk
    obtain ⟨hk62, rfl⟩ := lb_wl_of hk
    obtain ⟨e1, a1, a2⟩ := hpl k hk62
    rw [eD]
    exact a2 H (hP2 k _ a1)
  have hKK : lb_K G s := by
    refine ⟨?_, hinj, ?_, ?_, ?_⟩
    · rw [eD]
      show va_K D vwCl [(lb_cI G, .int), (lb_cJ G, .object RX3)] s
      rw [eI, eJ]
      exact hK
    · rw [eK]; exact hRf
    · rw [eK, eV]; exact hStr.narrow hnew
    · exact hZ.narrow hnew
  have hSw : va_S (lb_A G) s.heap H [] := ⟨hS.1, fun q h1 _ => hS.2.1 q h1 (Nat.not_le.mpr h1), fun q h => by cases h⟩
  have XX : lb_C G p s m #[Value.ref b] meth c cL_law 4 RL (some .boolean) := ⟨hx, hb, hml, hown, hts, hKK, hlocks, hr⟩
  rw [← e0, ← e53] at hl
  exact law_loop XX hX hbl (fun h => absurd (hnew b h) (Nat.not_le.mpr hbl)) hnew hL hst (L + 1) 0 _ H [] ls (by omega) (Nat.zero_le _) hr0 ⟨hPw, hSw⟩ (lv_sub hl [3, 2, 1, 0] rfl)
