/-! ===== the law's start ===== -/
set_option maxHeartbeats 4000000 in
set_option maxRecDepth 100000 in
theorem whole_start {p : Program} {e : Env} {s : State} {m : MethodId} {below : List Frame} {meth : Method} {c : Code} (l : Launch) (hflags : l.flags = flags0) {b L : Nat} {xs : Nat → Int32} (hL : L ≤ 2560) (C0 : lw_At p s m meth c b L xs) : W p l e room_1 s m #[Value.ref b] below meth c s.heap [] 0 0 (lw_Z below #[Value.ref b] s) (entryFrame m ([Value.ref b] : List Value).toArray 4) := by
  obtain ⟨hx, hb, hr, hml, hown, hts, hX, hbl, hlocks, hgv⟩ := id C0
  have hg : ∀ w ∈ gAll, w.before #[Value.ref b] s = true := fun w hw => hts w (gAll_in hw)
  obtain ⟨c0, i0, hKn0⟩ := u_known (C := RX0) (T := TX0) (N := 2) (n := 2) hg kin_X0 (hg _ kins_X0)
  obtain ⟨c1, i1, hKn1⟩ := u_known (C := RX1) (T := TX1) (N := 4) (n := 4) hg kin_X1 (hg _ kins_X1)
  obtain ⟨c2, i2, hKn2⟩ := u_known (C := RX2) (T := TX2) (N := 3) (n := 3) hg kin_X2 (hg _ kins_X2)
  obtain ⟨c3, i3, hKn3⟩ := u_known (C := RX3) (T := TX3) (N := 6) (n := 6) hg kin_X3 (hg _ kins_X3)
  obtain ⟨c4, i4, hKn4⟩ := u_known (C := RX4) (T := TX4) (N := 10) (n := 10) hg kin_X4 (hg _ kins_X4)
  obtain ⟨c5, i5, hKn5⟩ := u_known (C := RX5) (T := TX5) (N := 1) (n := 1) hg kin_X5 (hg _ kins_X5)
  obtain ⟨c6, i6, hKn6⟩ := u_known (C := RX6) (T := TX6) (N := 10) (n := 10) hg kin_X6 (hg _ kins_X6)
  obtain ⟨c7, i7, hKn7⟩ := u_known (C := RX7) (T := TX7) (N := 2) (n := 2) hg kin_X7 (hg _ kins_X7)
  obtain ⟨c8, i8, hKn8⟩ := u_known (C := RX8) (T := TX8) (N := 3) (n := 3) hg kin_X8 (hg _ kins_X8)
  obtain ⟨c9, i9, hKn9⟩ := u_known (C := RX9) (T := TX9) (N := 9) (n := 9) hg kin_X9 (hg _ kins_X9)
  obtain ⟨c10, i10, hKn10⟩ := u_known (C := RX10) (T := TX10) (N := 27) (n := 27) hg kin_X10 (hg _ kins_X10)
  obtain ⟨dC, dI, hKc⟩ : ∃ (dC : Nat → ClassId) (dI : Nat → Nat → Nat), ∀ (k : Nat) (q : vw_C), vwCl[k]? = some q → u_Kn s q.1 q.2.1 q.2.2 (dC k) (dI k) := by
    refine ⟨fun k => if k = 0 then c0 else if k = 1 then c1 else if k = 2 then c2 else if k = 3 then c3 else if k = 4 then c4 else if k = 5 then c5 else if k = 6 then c6 else if k = 7 then c7 else if k = 8 then c8 else if k = 9 then c9 else c10, fun k => if k = 0 then i0 else if k = 1 then i1 else if k = 2 then i2 else if k = 3 then i3 else if k = 4 then i4 else if k = 5 then i5 else if k = 6 then i6 else if k = 7 then i7 else if k = 8 then i8 else if k = 9 then i9 else i10, ?_⟩
    intro k q hq
    match k, hq with
    | 0, hq => cases hq; exact hKn0
    | 1, hq => cases hq; exact hKn1
    | 2, hq => cases hq; exact hKn2
    | 3, hq => cases hq; exact hKn3
    | 4, hq => cases hq; exact hKn4
    | 5, hq => cases hq; exact hKn5
    | 6, hq => cases hq; exact hKn6
    | 7, hq => cases hq; exact hKn7
    | 8, hq => cases hq; exact hKn8
    | 9, hq => cases hq; exact hKn9
    | 10, hq => cases hq; exact hKn10
    | k + 11, hq => simp [vwCl] at hq
  obtain ⟨ci, kI, qI, a1, a2, a3⟩ := Cond.arrayClass_spec (hg _ kac_int)
  obtain ⟨cb, kB, qB, b1, b2, b3⟩ := Cond.arrayClass_spec (hg _ kac_boolean)
  obtain ⟨qM, cq, kM, m1, m2, m3, m4, m5⟩ := Cond.arrayOver_spec (hts _ kao)
  obtain ⟨G, hG1, hG2, hG3⟩ : ∃ G : gG, G.1 = (dC, dI) ∧ G.2.1 = (ci, cb, cq) ∧ gA G = (fun q => s.heap.size ≤ q) := ⟨((dC, dI), (ci, cb, cq), (fun _ => 0), fun q => s.heap.size ≤ q), rfl, rfl, rfl⟩
  have hK : va_K G.1 vwCl (gty G) s := by
    rw [gty, hG1, hG2]
    refine ⟨hKc, fun k q hq => ?_⟩
    match k, hq with
    | 0, hq => cases hq; exact ⟨fun n z => ⟨fun k h => (by cases h), kI, a2, qI, a3⟩, a1⟩
    | 1, hq => cases hq; exact ⟨fun n z => ⟨fun k h => (by cases h), kB, b2, qB, b3⟩, b1⟩
    | 2, hq => cases hq; exact ⟨fun n z => ⟨fun k h => (by cases h), kM, m3, qM, m4⟩, ⟨kM, qM, m3, m4, m1, m5⟩⟩
    | k + 3, hq => simp at hq
  have hN : gNest s := ⟨va_Nw.of rfl (hts _ knl_X0_36), va_Nw.of rfl (hts _ knl_X7_45), va_Nw.of rfl (hts _ knl_X5_61)⟩
  have hXX : nX s := ⟨va_AO.of (hts _ kao), va_Nw.of rfl (hts _ knl_X9_9), va_Nw.of rfl (hts _ knl_X6_17), va_Nw.of rfl (hts _ knl_X9_18), va_Nw.of rfl (hts _ knl_X0_11), va_Nw.of rfl (hts _ knl_X0_20), va_Nw.of rfl (hts _ knl_X2_17), va_Nw.of rfl (hts _ knl_X9_32), va_Nw.of rfl (hts _ knl_X9_39), va_Nw.of rfl (hts _ knl_X9_46), va_Nw.of rfl (hts _ knl_X9_53), va_Nw.of rfl (hts _ knl_X9_64)⟩
  have C : gCx p s m #[Value.ref b] c G cL_law 4 RL := ⟨hx, hb, hml, hown, hg, hK, hN⟩
  have hA : ∀ q, s.heap.size ≤ q → gA G q := fun q h => by rw [hG3]; exact h
  have hA2 : ∀ q, gA G q → s.heap.size ≤ q := fun q h => by rw [hG3] at h; exact h
  have hW : nW G s [] [] s.heap [] := ⟨fun k q h => by simp at h, ⟨fun i j p q h => by simp at h, fun k q h => by simp at h⟩, va_S.rf⟩
  have hl := lv_entry ([.ref b]) (n := 4) (Nat.le_of_ble_eq_true rfl)
  rw [lg_entry_eq]
  generalize (lg_sl ([.ref b]) ++ List.replicate (4 - (lg_sl ([.ref b])).length) Slot.unset).toArray = ls at hl ⊢
  have hl : lv_has ls 4 [(0, .ref b)] := hl
  refine n_new (ci := 9) (fs := [.null, .null, .null, .null, .null, .null, .null, .null, .null]) (Cn := RX9) (T := TX9) (N := 9) C hA hW kin_X9 tyX9 tyX9_ok kcl_L_7 kins_X9 kini_X9 rfl (fun j hj => by rcases (show j = 0 ∨ j = 1 ∨ j = 2 ∨ j = 3 ∨ j = 4 ∨ j = 5 ∨ j = 6 ∨ j = 7 ∨ j = 8 by omega) with rfl | rfl | rfl | rfl | rfl | rfl | rfl | rfl | rfl <;> rfl) (Nat.le_of_ble_eq_true rfl) (Nat.le_of_ble_eq_true rfl) dL_law_0 (fun q0 H hW => ?_)
  have hW : nW G s [] [(q0, .inr (9, [.null, .null, .null, .null, .null, .null, .null, .null, .null]))] _ _ := hW
  refine lv_dup hx hb dL_law_3 rfl ?_
  refine n_callI C hXX hA hW (n_X9 l G [] q0) kml_L_9 kco_X9_init kini_X9 kim_X9_init rfl (by decide +kernel) ⟨Nat.le_of_ble_eq_true rfl, Nat.le_of_ble_eq_true rfl⟩ ⟨Nat.le_of_ble_eq_true rfl, Nat.le_of_ble_eq_true rfl⟩ hl.1 (Nat.le_of_ble_eq_true rfl) dL_law_4 (fun nl H locs hp hW => ?_)
  obtain ⟨ad, ch, cm, had, rfl⟩ := hp
  refine lv_astore_n (lv' := [(1, .ref q0), (0, .ref b)]) hx hb dL_law_7 rfl hl (by decide) rfl (fun ls hl => ?_)
  refine n_new (ci := 10) (fs := [.int 0, .long 0, .null, .int 0, .int 0, .int 0, .int 0, .int 0, .int 0, .null, .int 0, .null, .null, .null, .null, .null, .null, .null, .null, .null, .int 0, .null, .null, .null, .int 0, .int 0, .null]) (Cn := RX10) (T := TX10) (N := 27) C hA hW kin_X10 tyX10 tyX10_ok kcl_L_10 kins_X10 kini_X10 rfl (fun j hj => by rcases (show j = 0 ∨ j = 1 ∨ j = 2 ∨ j = 3 ∨ j = 4 ∨ j = 5 ∨ j = 6 ∨ j = 7 ∨ j = 8 ∨ j = 9 ∨ j = 10 ∨ j = 11 ∨ j = 12 ∨ j = 13 ∨ j = 14 ∨ j = 15 ∨ j = 16 ∨ j = 17 ∨ j = 18 ∨ j = 19 ∨ j = 20 ∨ j = 21 ∨ j = 22 ∨ j = 23 ∨ j = 24 ∨ j = 25 ∨ j = 26 by omega) with rfl | rfl | rfl | rfl | rfl | rfl | rfl | rfl | rfl | rfl | rfl | rfl | rfl | rfl | rfl | rfl | rfl | rfl | rfl | rfl | rfl | rfl | rfl | rfl | rfl | rfl | rfl <;> rfl) (Nat.le_of_ble_eq_true rfl) (Nat.le_of_ble_eq_true rfl) dL_law_8 (fun q1 H hW => ?_)
  have hW : nW G s [] (bBells G ad ch cm ++ [(q1, .inr (10, [.int 0, .long 0, .null, .int 0, .int 0, .int 0, .int 0, .int 0, .int 0, .null, .int 0, .null, .null, .null, .null, .null, .null, .null, .null, .null, .int 0, .null, .null, .null, .int 0, .int 0, .null]))]) _ _ := hW
  refine lv_dup hx hb dL_law_11 rfl ?_
  refine va_callv (A0 := gA G) (A1 := gA G) (va_runI (As := []) (rest := [.ref q1]) (⟨C.1, C.2.1, C.2.2.1, C.2.2.2.1, C.2.2.2.2.1⟩ : CallFix p m c cL_law 4 s #[Value.ref b] gAll RL) (n_X10 l G ad ch cm q1) (cwI 0 C.2.2.2.2.1 (gGood fun w hw => (List.mem_cons.mp hw).elim (fun e => e ▸ kco_X10_init) id) rfl rfl rfl (C.2.2.2.2.1 _ kini_X10) (C.2.2.2.2.1 _ kml_L_12) (C.2.2.2.2.1 _ kim_X10_init) rfl (by decide +kernel) ⟨Nat.le_of_ble_eq_true rfl, Nat.le_of_ble_eq_true rfl⟩) ⟨nP_blind G _ _, fun U hU hw => ⟨rfl, nP_of (wr := []) hW C hXX hA hU hw⟩⟩ rfl rfl hl.1 rfl (lv_room (Nat.le_of_ble_eq_true rfl)) dL_law_12 ⟨Nat.le_of_ble_eq_true rfl, Nat.le_of_ble_eq_true rfl⟩) hW.2.2 (fun _ _ h => h) (fun _ h => h) (fun A t H1 locs1 ht hvm hp hB hz1 hk1 hS => ?_)
  obtain ⟨hp0, hp96⟩ := hp
  have hW : gW (gAdd G A) s (mSettle (mBegS st0)) ta0 H1 locs1 := ⟨by rw [← ht]; exact hB.1, hB.2.2.1, hS⟩
  refine lv_astore_n (lv' := [(2, .ref q1), (1, .ref q0), (0, .ref b)]) hx hb dL_law_15 rfl hl (by decide) rfl (fun ls hl => ?_)
  refine lv_iconst (v := nI 0) hx hb dL_law_16 (by decide) ?_
  refine lv_istore_n (lv' := [(3, .int (nI 0)), (2, .ref q1), (1, .ref q0), (0, .ref b)]) hx hb dL_law_17 rfl hl (by decide) rfl (fun ls hl => ?_)
  refine W.widen (k := 600000) (n := 7302250) (Nat.le_of_ble_eq_true rfl) (Nat.le_of_ble_eq_true rfl) ?_
  have hl : lv_has ls 4 [(3, .int (nI 0)), (2, .ref (gAd (gAdd G A) 96)), (1, .ref (gAd (gAdd G A) 0)), (0, .ref b)] := by
    rw [show gAd (gAdd G A) 96 = q1 from hp96, show gAd (gAdd G A) 0 = q0 from hp0.trans had]; exact hl
  exact law_loop (G := gAdd G A) C hr hlocks hX hbl hA2 hL (L + 6) 0 _ _ _ _ ls (by omega) (by omega) st0_inv hW hl
