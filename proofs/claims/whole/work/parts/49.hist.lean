/-! ===== the constructors with loops ===== -/
set_option maxHeartbeats 4000000 in
set_option maxRecDepth 100000 in
theorem n_X2 (l : Launch) (G : gG) (wr : va_W) (b : Nat) : nV l yX2_init cX2_init 2 2 40 51 300 G wr b [(b, .inr (2, [.null, .int 0, .int 0]))] (fun nl => ∃ q1 c, nl = bHist G b q1 c) := by
  refine nMet_of (by decide) (Nat.le_of_ble_eq_true rfl) ?_
  intro p e s m args below meth c C hX hA hr hlk hnm ls hl hW
  have hx := C.1
  have hb := C.2.1
  have hnm : meth.name = "<init>" := hnm
  have hl : lv_has ls 2 [(0, .ref b)] := hl
  refine lv_aload_n hx hb dX2_init_0 rfl (lv_at hl 0 rfl) ?_
  refine n_obj C hl.1 kml_X2_3 (Nat.le_of_ble_eq_true rfl) (Nat.le_of_ble_eq_true rfl) dX2_init_1 ?_
  refine lv_aload_n hx hb dX2_init_4 rfl (lv_at hl 0 rfl) ?_
  refine lv_bipush (v := nI 10) hx hb dX2_init_5 (by decide) ?_
  refine n_newQ (N' := 10) C hX hA hW kcl_X2_9 rfl (by decide) (Nat.le_of_ble_eq_true rfl) (Nat.le_of_ble_eq_true rfl) dX2_init_7 (fun q1 H hW => ?_)
  have hW : nW G s wr ([(b, .inr (2, [.null, .int 0, .int 0]))] ++ [(q1, aQ G 10 (fun _ => none))]) _ _ := hW
  refine n_putF (ci := 2) (v := .ref q1) (ty := (.array (.object "AbsentBells$Moment"))) (q0 := 0) C hnm hW rfl rfl kin_X2 tyX2 tyX2_ok nmX2 0 (by decide) rfl rfl kf_X2_11 rfl (by decide +kernel) rfl rfl (Nat.le_of_ble_eq_true rfl) dX2_init_10 (fun H locs hW => ?_)
  have hW : nW G s wr ([(b, .inr (2, [.ref q1, .int 0, .int 0]))] ++ [(q1, aQ G 10 (fun _ => none))]) _ _ := hW
  refine lv_iconst (v := nI 0) hx hb dX2_init_13 (by decide) ?_
  refine lv_istore_n (lv' := [(1, .int (nI 0)), (0, .ref b)]) hx hb dX2_init_14 rfl hl (by decide) rfl (fun ls hl => ?_)
  have LP : ∀ (n i : Nat) (cf : Nat → Nat → Nat) (H : Heap) (locs : List Loc) (ls : Array Slot), n + i = 10 → nW G s (wr ++ ([(b, .inr (2, [.ref q1, .int 0, .int 0]))])) ([(q1, aQ G 10 (qoF cf i))] ++ bMoms G cf i) H locs → lv_has ls 2 [(1, .int (nI i)), (0, .ref b)] → W p l e (nR 2 40 51 300) s m args below meth c H locs (1 + 5 * i) (10 + 29 * i) (MQ below (va_Qv (fun nl => ∃ q1 c, nl = bHist G b q1 c) (fun nl => nP G (wr ++ nl)) (gA G)) args s 51 300 (gA G)) (F0 m 15 ls []) := by
    intro n
    induction n with
    | zero =>
      intro i cf H locs ls hm hW hl
      refine lv_iload_n hx hb dX2_init_15 rfl (lv_at hl 0 rfl) ?_
      refine lv_bipush (v := nI 10) hx hb dX2_init_16 (by decide) ?_
      refine lv_icmp_ge (tgt := 40) hx hb dX2_init_18 (by decide) (fun _ => ?_) (fun zz => absurd (nI_le (by omega) (by omega)) zz)
      obtain rfl : i = 10 := by omega
      have hW := nW_r.mp hW
      exact n_ret C hX hA hr hlk hW ⟨q1, cf, rfl⟩ (Nat.le_of_ble_eq_true rfl) (Nat.le_of_ble_eq_true rfl) dX2_init_40
    | succ n ih =>
      intro i cf H locs ls hm hW hl
      refine lv_iload_n hx hb dX2_init_15 rfl (lv_at hl 0 rfl) ?_
      refine lv_bipush (v := nI 10) hx hb dX2_init_16 (by decide) ?_
      refine lv_icmp_ge (tgt := 40) hx hb dX2_init_18 (by decide) (fun zz => absurd zz (nI_ge (by omega) (by omega))) (fun _ => ?_)
      refine lv_aload_n hx hb dX2_init_21 rfl (lv_at hl 1 rfl) ?_
      refine n_get (ci := 2) (v := .ref q1) (q0 := 0) C (nW_r.mp hW) rfl rfl kin_X2 0 (by decide) rfl kf_X2_11 rfl dX2_init_22 ?_
      refine lv_iload_n hx hb dX2_init_25 rfl (lv_at hl 0 rfl) ?_
      refine n_new (ci := 3) (fs := [.int 0, .int 0, .null, .null, .null, .null]) (Cn := RX3) (T := TX3) (N := 6) C hA hW kin_X3 tyX3 tyX3_ok kcl_X2_9 kins_X3 kini_X3 rfl (fun j hj => by rcases (show j = 0 ∨ j = 1 ∨ j = 2 ∨ j = 3 ∨ j = 4 ∨ j = 5 by omega) with rfl | rfl | rfl | rfl | rfl | rfl <;> rfl) (by show _ ≤ 51; omega) (by show _ ≤ 300; omega) dX2_init_26 (fun q H hW => ?_)
      refine lv_dup hx hb dX2_init_29 rfl ?_
      have hW := nW_r.mpr hW
      refine n_callN hX.2.2.2.2.2.2.1 C hX hA hW (n_X3 l G ((wr ++ ([(b, .inr (2, [.ref q1, .int 0, .int 0]))])) ++ ([(q1, aQ G 10 (qoF cf i))] ++ bMoms G cf i)) q) kco_X3_init kini_X3 kim_X3_init rfl (by decide +kernel) ⟨Nat.le_of_ble_eq_true rfl, Nat.le_of_ble_eq_true rfl⟩ ⟨by show _ ≤ 51; omega, by show _ ≤ 300; omega⟩ hl.1 (Nat.le_of_ble_eq_true rfl) dX2_init_30 (fun nl H locs hp hW => ?_)
      obtain ⟨t1, t2, t3, t4, rfl⟩ := hp
      have hW := nW_r.mp hW
      refine n_astq (q0 := 0) (qk := ([(q1, aQ G 10 (qoF cf i))] ++ bMoms G cf i).length) C hW rfl (n_mid (l1 := [(q1, aQ G 10 (qoF cf i))] ++ bMoms G cf i) (l2 := (bMom G q t1 t2 t3 t4).tail)) (vp_in_nI (by omega) (by omega)) dX2_init_33 (fun H locs hW => ?_)
      obtain ⟨cf2, h1, h2⟩ : ∃ cf2 : Nat → Nat → Nat, (∀ j, j < i → cf2 j = cf j) ∧ cf2 i = (fun k => if k = 0 then q else if k = 1 then t1 else if k = 2 then t2 else if k = 3 then t3 else t4) := ⟨va_up cf i (fun k => if k = 0 then q else if k = 1 then t1 else if k = 2 then t2 else if k = 3 then t3 else t4), fun j hj => if_neg (by omega), if_pos rfl⟩
      have e2 : bMoms G cf2 (i + 1) = bMoms G cf i ++ bMom G q t1 t2 t3 t4 := by rw [bMoms, bMoms_cg i h1, h2]; rfl
      have hW : nW G s (wr ++ ([(b, .inr (2, [.ref q1, .int 0, .int 0]))])) ([(q1, aQ G 10 (qoF cf2 (i + 1)))] ++ bMoms G cf2 (i + 1)) H locs := by
        rw [nI_clamp (by omega), qoF_up h1 (by rw [h2]; rfl)] at hW
        rw [e2]; exact hW
      refine lv_iinc (v := nI (i + 1)) (lv' := [(1, .int (nI (i + 1))), (0, .ref b)]) hx hb dX2_init_34 hl (k := 0) rfl (nI_add i 1) (by decide) rfl (fun ls hl => ?_)
      refine lv_goto (tgt := 15) hx hb dX2_init_37 (by decide) ?_
      refine W.widen (k := 1 + 5 * (i + 1)) (n := 10 + 29 * (i + 1)) (by omega) (by omega) ?_
      exact ih (i + 1) cf2 H locs ls (by omega) hW hl
  have hW : nW G s (wr ++ ([(b, .inr (2, [.ref q1, .int 0, .int 0]))])) ([(q1, aQ G 10 (qoF (fun _ _ => 0) 0))] ++ bMoms G (fun _ _ => 0) 0) H locs := by
    rw [← qoF_0]; exact nW_r.mpr hW
  exact LP 10 0 (fun _ _ => 0) _ _ ls rfl hW hl
def bBells (G : gG) (ad : Nat → Nat) (ch cm : Nat → Nat → Nat) : va_W := [(ad 0, .inr (9, [.ref (ad 1), .ref (ad 9), .ref (ad 21), .ref (ad 73), .ref (ad 77), .ref (ad 81), .ref (ad 83), .ref (ad 84), .ref (ad 95)]))] ++ bReader G (ad 1) (ad 2) (ad 3) (ad 4) (ad 5) (ad 6) (ad 7) (ad 8) ++ bDay G (ad 9) (ad 10) (ad 11) (ad 12) (ad 13) (ad 14) (ad 15) (ad 16) (ad 17) (ad 18) (ad 19) (ad 20) ++ bHist G (ad 21) (ad 22) ch ++ bHeard G (ad 73) (ad 74) (ad 75) (ad 76) ++ bWays G (ad 77) (ad 78) (ad 79) (ad 80) ++ bSil G (ad 81) (ad 82) ++ bRates (ad 83) ++ ([(ad 84, aQ G 2 (qoF cm 2))] ++ bMoms G cm 2) ++ [(ad 95, .inl (G.2.1.2.1, 2, .inl (fun _ => 0)))]
set_option maxHeartbeats 4000000 in
set_option maxRecDepth 100000 in
theorem n_X9 (l : Launch) (G : gG) (wr : va_W) (b : Nat) : nV l yX9_init cX9_init 2 3 61 95 2895 G wr b [(b, .inr (9, [.null, .null, .null, .null, .null, .null, .null, .null, .null]))] (fun nl => ∃ ad ch cm, ad 0 = b ∧ nl = bBells G ad ch cm) := by
  refine nMet_of (by decide) (Nat.le_of_ble_eq_true rfl) ?_
  intro p e s m args below meth c C hX hA hr hlk hnm ls hl hW
  have hx := C.1
  have hb := C.2.1
  have hnm : meth.name = "<init>" := hnm
  have hl : lv_has ls 2 [(0, .ref b)] := hl
  refine lv_aload_n hx hb dX9_init_0 rfl (lv_at hl 0 rfl) ?_
  refine n_obj C hl.1 kml_X9_1 (Nat.le_of_ble_eq_true rfl) (Nat.le_of_ble_eq_true rfl) dX9_init_1 ?_
  refine lv_aload_n hx hb dX9_init_4 rfl (lv_at hl 0 rfl) ?_
  refine n_new (ci := 6) (fs := [.null, .int 0, .null, .int 0, .int 0, .int 0, .int 0, .int 0, .int 0, .int 0]) (Cn := RX6) (T := TX6) (N := 10) C hA hW kin_X6 tyX6 tyX6_ok kcl_X9_7 kins_X6 kini_X6 rfl (fun j hj => by rcases (show j = 0 ∨ j = 1 ∨ j = 2 ∨ j = 3 ∨ j = 4 ∨ j = 5 ∨ j = 6 ∨ j = 7 ∨ j = 8 ∨ j = 9 by omega) with rfl | rfl | rfl | rfl | rfl | rfl | rfl | rfl | rfl | rfl <;> rfl) (Nat.le_of_ble_eq_true rfl) (Nat.le_of_ble_eq_true rfl) dX9_init_5 (fun q1 H hW => ?_)
  have hW := nW_r.mpr hW
  refine lv_dup hx hb dX9_init_8 rfl ?_
  refine n_callN hX.2.1 C hX hA hW (n_X6 l G (wr ++ ([(b, .inr (9, [.null, .null, .null, .null, .null, .null, .null, .null, .null]))])) q1) kco_X6_init kini_X6 kim_X6_init rfl (by decide +kernel) ⟨Nat.le_of_ble_eq_true rfl, Nat.le_of_ble_eq_true rfl⟩ ⟨Nat.le_of_ble_eq_true rfl, Nat.le_of_ble_eq_true rfl⟩ hl.1 (Nat.le_of_ble_eq_true rfl) dX9_init_9 (fun nl H locs hp hW => ?_)
  obtain ⟨r2, r3, r4, r5, r6, r7, r8, rfl⟩ := hp
  have hW := nW_r.mp hW
  have hW : nW G s wr ([(b, .inr (9, [.null, .null, .null, .null, .null, .null, .null, .null, .null]))] ++ (bReader G q1 r2 r3 r4 r5 r6 r7 r8)) _ _ := hW
  refine n_putF (ci := 9) (v := .ref q1) (ty := .object "AbsentBells$Reader") (q0 := 0) C hnm hW rfl rfl kin_X9 tyX9 tyX9_ok nmX9 0 (by decide) rfl rfl kf_X9_10 rfl (by decide +kernel) rfl rfl (Nat.le_of_ble_eq_true rfl) dX9_init_12 (fun H locs hW => ?_)
  have hW : nW G s wr ([(b, .inr (9, [.ref q1, .null, .null, .null, .null, .null, .null, .null, .null]))] ++ (bReader G q1 r2 r3 r4 r5 r6 r7 r8)) _ _ := hW
  refine lv_aload_n hx hb dX9_init_15 rfl (lv_at hl 0 rfl) ?_
  refine n_new (ci := 0) (fs := [.null, .null]) (Cn := RX0) (T := TX0) (N := 2) C hA hW kin_X0 tyX0 tyX0_ok kcl_X9_16 kins_X0 kini_X0 rfl (fun j hj => by rcases (show j = 0 ∨ j = 1 by omega) with rfl | rfl <;> rfl) (Nat.le_of_ble_eq_true rfl) (Nat.le_of_ble_eq_true rfl) dX9_init_16 (fun q9 H hW => ?_)
  have hW := nW_r.mpr hW
  refine lv_dup hx hb dX9_init_19 rfl ?_
  refine n_callN hX.2.2.2.1 C hX hA hW (n_X0 l G (wr ++ ([(b, .inr (9, [.ref q1, .null, .null, .null, .null, .null, .null, .null, .null]))] ++ (bReader G q1 r2 r3 r4 r5 r6 r7 r8))) q9) kco_X0_init kini_X0 kim_X0_init rfl (by decide +kernel) ⟨Nat.le_of_ble_eq_true rfl, Nat.le_of_ble_eq_true rfl⟩ ⟨Nat.le_of_ble_eq_true rfl, Nat.le_of_ble_eq_true rfl⟩ hl.1 (Nat.le_of_ble_eq_true rfl) dX9_init_20 (fun nl H locs hp hW => ?_)
  obtain ⟨r10, r11, r12, r13, r14, r15, r16, r17, r18, r19, r20, rfl⟩ := hp
  have hW := nW_r.mp hW
  have hW : nW G s wr ([(b, .inr (9, [.ref q1, .null, .null, .null, .null, .null, .null, .null, .null]))] ++ (bReader G q1 r2 r3 r4 r5 r6 r7 r8) ++ (bDay G q9 r10 r11 r12 r13 r14 r15 r16 r17 r18 r19 r20)) _ _ := hW
  refine n_putF (ci := 9) (v := .ref q9) (ty := .object "AbsentBells$Day") (q0 := 0) C hnm hW rfl rfl kin_X9 tyX9 tyX9_ok nmX9 1 (by decide) rfl rfl kf_X9_19 rfl (by decide +kernel) rfl rfl (Nat.le_of_ble_eq_true rfl) dX9_init_23 (fun H locs hW => ?_)
  have hW : nW G s wr ([(b, .inr (9, [.ref q1, .ref q9, .null, .null, .null, .null, .null, .null, .null]))] ++ (bReader G q1 r2 r3 r4 r5 r6 r7 r8) ++ (bDay G q9 r10 r11 r12 r13 r14 r15 r16 r17 r18 r19 r20)) _ _ := hW
  refine lv_aload_n hx hb dX9_init_26 rfl (lv_at hl 0 rfl) ?_
  refine n_new (ci := 2) (fs := [.null, .int 0, .int 0]) (Cn := RX2) (T := TX2) (N := 3) C hA hW kin_X2 tyX2 tyX2_ok kcl_X9_23 kins_X2 kini_X2 rfl (fun j hj => by rcases (show j = 0 ∨ j = 1 ∨ j = 2 by omega) with rfl | rfl | rfl <;> rfl) (Nat.le_of_ble_eq_true rfl) (Nat.le_of_ble_eq_true rfl) dX9_init_27 (fun q21 H hW => ?_)
  have hW := nW_r.mpr hW
  refine lv_dup hx hb dX9_init_30 rfl ?_
  refine n_callI C hX hA hW (n_X2 l G (wr ++ ([(b, .inr (9, [.ref q1, .ref q9, .null, .null, .null, .null, .null, .null, .null]))] ++ (bReader G q1 r2 r3 r4 r5 r6 r7 r8) ++ (bDay G q9 r10 r11 r12 r13 r14 r15 r16 r17 r18 r19 r20))) q21) kml_X9_25 kco_X2_init kini_X2 kim_X2_init rfl (by decide +kernel) ⟨Nat.le_of_ble_eq_true rfl, Nat.le_of_ble_eq_true rfl⟩ ⟨Nat.le_of_ble_eq_true rfl, Nat.le_of_ble_eq_true rfl⟩ hl.1 (Nat.le_of_ble_eq_true rfl) dX9_init_31 (fun nl H locs hp hW => ?_)
  obtain ⟨r22, c23, rfl⟩ := hp
  have hW := nW_r.mp hW
  have hW : nW G s wr ([(b, .inr (9, [.ref q1, .ref q9, .null, .null, .null, .null, .null, .null, .null]))] ++ (bReader G q1 r2 r3 r4 r5 r6 r7 r8) ++ (bDay G q9 r10 r11 r12 r13 r14 r15 r16 r17 r18 r19 r20) ++ (bHist G q21 r22 c23)) _ _ := hW
  refine n_putF (ci := 9) (v := .ref q21) (ty := .object "AbsentBells$History") (q0 := 0) C hnm hW rfl rfl kin_X9 tyX9 tyX9_ok nmX9 2 (by decide) rfl rfl kf_X9_26 rfl (by decide +kernel) rfl rfl (Nat.le_of_ble_eq_true rfl) dX9_init_34 (fun H locs hW => ?_)
  have hW : nW G s wr ([(b, .inr (9, [.ref q1, .ref q9, .ref q21, .null, .null, .null, .null, .null, .null]))] ++ (bReader G q1 r2 r3 r4 r5 r6 r7 r8) ++ (bDay G q9 r10 r11 r12 r13 r14 r15 r16 r17 r18 r19 r20) ++ (bHist G q21 r22 c23)) _ _ := hW
  refine lv_aload_n hx hb dX9_init_37 rfl (lv_at hl 0 rfl) ?_
  refine n_new (ci := 1) (fs := [.int 0, .null, .null, .null]) (Cn := RX1) (T := TX1) (N := 4) C hA hW kin_X1 tyX1 tyX1_ok kcl_X9_30 kins_X1 kini_X1 rfl (fun j hj => by rcases (show j = 0 ∨ j = 1 ∨ j = 2 ∨ j = 3 by omega) with rfl | rfl | rfl | rfl <;> rfl) (Nat.le_of_ble_eq_true rfl) (Nat.le_of_ble_eq_true rfl) dX9_init_38 (fun q24 H hW => ?_)
  have hW := nW_r.mpr hW
  refine lv_dup hx hb dX9_init_41 rfl ?_
  refine n_callN hX.2.2.2.2.2.2.2.1 C hX hA hW (n_X1 l G (wr ++ ([(b, .inr (9, [.ref q1, .ref q9, .ref q21, .null, .null, .null, .null, .null, .null]))] ++ (bReader G q1 r2 r3 r4 r5 r6 r7 r8) ++ (bDay G q9 r10 r11 r12 r13 r14 r15 r16 r17 r18 r19 r20) ++ (bHist G q21 r22 c23))) q24) kco_X1_init kini_X1 kim_X1_init rfl (by decide +kernel) ⟨Nat.le_of_ble_eq_true rfl, Nat.le_of_ble_eq_true rfl⟩ ⟨Nat.le_of_ble_eq_true rfl, Nat.le_of_ble_eq_true rfl⟩ hl.1 (Nat.le_of_ble_eq_true rfl) dX9_init_42 (fun nl H locs hp hW => ?_)
  obtain ⟨r25, r26, r27, rfl⟩ := hp
  have hW := nW_r.mp hW
  have hW : nW G s wr ([(b, .inr (9, [.ref q1, .ref q9, .ref q21, .null, .null, .null, .null, .null, .null]))] ++ (bReader G q1 r2 r3 r4 r5 r6 r7 r8) ++ (bDay G q9 r10 r11 r12 r13 r14 r15 r16 r17 r18 r19 r20) ++ (bHist G q21 r22 c23) ++ (bHeard G q24 r25 r26 r27)) _ _ := hW
  refine n_putF (ci := 9) (v := .ref q24) (ty := .object "AbsentBells$Heard") (q0 := 0) C hnm hW rfl rfl kin_X9 tyX9 tyX9_ok nmX9 3 (by decide) rfl rfl kf_X9_33 rfl (by decide +kernel) rfl rfl (Nat.le_of_ble_eq_true rfl) dX9_init_45 (fun H locs hW => ?_)
  have hW : nW G s wr ([(b, .inr (9, [.ref q1, .ref q9, .ref q21, .ref q24, .null, .null, .null, .null, .null]))] ++ (bReader G q1 r2 r3 r4 r5 r6 r7 r8) ++ (bDay G q9 r10 r11 r12 r13 r14 r15 r16 r17 r18 r19 r20) ++ (bHist G q21 r22 c23) ++ (bHeard G q24 r25 r26 r27)) _ _ := hW
  refine lv_aload_n hx hb dX9_init_48 rfl (lv_at hl 0 rfl) ?_
  refine n_new (ci := 8) (fs := [.null, .null, .null]) (Cn := RX8) (T := TX8) (N := 3) C hA hW kin_X8 tyX8 tyX8_ok kcl_X9_37 kins_X8 kini_X8 rfl (fun j hj => by rcases (show j = 0 ∨ j = 1 ∨ j = 2 by omega) with rfl | rfl | rfl <;> rfl) (Nat.le_of_ble_eq_true rfl) (Nat.le_of_ble_eq_true rfl) dX9_init_49 (fun q28 H hW => ?_)
  have hW := nW_r.mpr hW
  refine lv_dup hx hb dX9_init_52 rfl ?_
  refine n_callN hX.2.2.2.2.2.2.2.2.1 C hX hA hW (n_X8 l G (wr ++ ([(b, .inr (9, [.ref q1, .ref q9, .ref q21, .ref q24, .null, .null, .null, .null, .null]))] ++ (bReader G q1 r2 r3 r4 r5 r6 r7 r8) ++ (bDay G q9 r10 r11 r12 r13 r14 r15 r16 r17 r18 r19 r20) ++ (bHist G q21 r22 c23) ++ (bHeard G q24 r25 r26 r27))) q28) kco_X8_init kini_X8 kim_X8_init rfl (by decide +kernel) ⟨Nat.le_of_ble_eq_true rfl, Nat.le_of_ble_eq_true rfl⟩ ⟨Nat.le_of_ble_eq_true rfl, Nat.le_of_ble_eq_true rfl⟩ hl.1 (Nat.le_of_ble_eq_true rfl) dX9_init_53 (fun nl H locs hp hW => ?_)
  obtain ⟨r29, r30, r31, rfl⟩ := hp
  have hW := nW_r.mp hW
  have hW : nW G s wr ([(b, .inr (9, [.ref q1, .ref q9, .ref q21, .ref q24, .null, .null, .null, .null, .null]))] ++ (bReader G q1 r2 r3 r4 r5 r6 r7 r8) ++ (bDay G q9 r10 r11 r12 r13 r14 r15 r16 r17 r18 r19 r20) ++ (bHist G q21 r22 c23) ++ (bHeard G q24 r25 r26 r27) ++ (bWays G q28 r29 r30 r31)) _ _ := hW
  refine n_putF (ci := 9) (v := .ref q28) (ty := .object "AbsentBells$Ways") (q0 := 0) C hnm hW rfl rfl kin_X9 tyX9 tyX9_ok nmX9 4 (by decide) rfl rfl kf_X9_40 rfl (by decide +kernel) rfl rfl (Nat.le_of_ble_eq_true rfl) dX9_init_56 (fun H locs hW => ?_)
  have hW : nW G s wr ([(b, .inr (9, [.ref q1, .ref q9, .ref q21, .ref q24, .ref q28, .null, .null, .null, .null]))] ++ (bReader G q1 r2 r3 r4 r5 r6 r7 r8) ++ (bDay G q9 r10 r11 r12 r13 r14 r15 r16 r17 r18 r19 r20) ++ (bHist G q21 r22 c23) ++ (bHeard G q24 r25 r26 r27) ++ (bWays G q28 r29 r30 r31)) _ _ := hW
  refine lv_aload_n hx hb dX9_init_59 rfl (lv_at hl 0 rfl) ?_
  refine n_new (ci := 7) (fs := [.null, .int 0]) (Cn := RX7) (T := TX7) (N := 2) C hA hW kin_X7 tyX7 tyX7_ok kcl_X9_44 kins_X7 kini_X7 rfl (fun j hj => by rcases (show j = 0 ∨ j = 1 by omega) with rfl | rfl <;> rfl) (Nat.le_of_ble_eq_true rfl) (Nat.le_of_ble_eq_true rfl) dX9_init_60 (fun q32 H hW => ?_)
  have hW := nW_r.mpr hW
  refine lv_dup hx hb dX9_init_63 rfl ?_
  refine n_callN hX.2.2.2.2.2.2.2.2.2.1 C hX hA hW (n_X7 l G (wr ++ ([(b, .inr (9, [.ref q1, .ref q9, .ref q21, .ref q24, .ref q28, .null, .null, .null, .null]))] ++ (bReader G q1 r2 r3 r4 r5 r6 r7 r8) ++ (bDay G q9 r10 r11 r12 r13 r14 r15 r16 r17 r18 r19 r20) ++ (bHist G q21 r22 c23) ++ (bHeard G q24 r25 r26 r27) ++ (bWays G q28 r29 r30 r31))) q32) kco_X7_init kini_X7 kim_X7_init rfl (by decide +kernel) ⟨Nat.le_of_ble_eq_true rfl, Nat.le_of_ble_eq_true rfl⟩ ⟨Nat.le_of_ble_eq_true rfl, Nat.le_of_ble_eq_true rfl⟩ hl.1 (Nat.le_of_ble_eq_true rfl) dX9_init_64 (fun nl H locs hp hW => ?_)
  obtain ⟨r33, rfl⟩ := hp
  have hW := nW_r.mp hW
  have hW : nW G s wr ([(b, .inr (9, [.ref q1, .ref q9, .ref q21, .ref q24, .ref q28, .null, .null, .null, .null]))] ++ (bReader G q1 r2 r3 r4 r5 r6 r7 r8) ++ (bDay G q9 r10 r11 r12 r13 r14 r15 r16 r17 r18 r19 r20) ++ (bHist G q21 r22 c23) ++ (bHeard G q24 r25 r26 r27) ++ (bWays G q28 r29 r30 r31) ++ (bSil G q32 r33)) _ _ := hW
  refine n_putF (ci := 9) (v := .ref q32) (ty := .object "AbsentBells$Silencer") (q0 := 0) C hnm hW rfl rfl kin_X9 tyX9 tyX9_ok nmX9 5 (by decide) rfl rfl kf_X9_47 rfl (by decide +kernel) rfl rfl (Nat.le_of_ble_eq_true rfl) dX9_init_67 (fun H locs hW => ?_)
  have hW : nW G s wr ([(b, .inr (9, [.ref q1, .ref q9, .ref q21, .ref q24, .ref q28, .ref q32, .null, .null, .null]))] ++ (bReader G q1 r2 r3 r4 r5 r6 r7 r8) ++ (bDay G q9 r10 r11 r12 r13 r14 r15 r16 r17 r18 r19 r20) ++ (bHist G q21 r22 c23) ++ (bHeard G q24 r25 r26 r27) ++ (bWays G q28 r29 r30 r31) ++ (bSil G q32 r33)) _ _ := hW
  refine lv_aload_n hx hb dX9_init_70 rfl (lv_at hl 0 rfl) ?_
  refine n_new (ci := 5) (fs := [.long 0]) (Cn := RX5) (T := TX5) (N := 1) C hA hW kin_X5 tyX5 tyX5_ok kcl_X9_51 kins_X5 kini_X5 rfl (fun j hj => by rcases (show j = 0 by omega) with rfl <;> rfl) (Nat.le_of_ble_eq_true rfl) (Nat.le_of_ble_eq_true rfl) dX9_init_71 (fun q34 H hW => ?_)
  have hW := nW_r.mpr hW
  refine lv_dup hx hb dX9_init_74 rfl ?_
  refine n_callN hX.2.2.2.2.2.2.2.2.2.2.1 C hX hA hW (n_X5 l G (wr ++ ([(b, .inr (9, [.ref q1, .ref q9, .ref q21, .ref q24, .ref q28, .ref q32, .null, .null, .null]))] ++ (bReader G q1 r2 r3 r4 r5 r6 r7 r8) ++ (bDay G q9 r10 r11 r12 r13 r14 r15 r16 r17 r18 r19 r20) ++ (bHist G q21 r22 c23) ++ (bHeard G q24 r25 r26 r27) ++ (bWays G q28 r29 r30 r31) ++ (bSil G q32 r33))) q34) kco_X5_init kini_X5 kim_X5_init rfl (by decide +kernel) ⟨Nat.le_of_ble_eq_true rfl, Nat.le_of_ble_eq_true rfl⟩ ⟨Nat.le_of_ble_eq_true rfl, Nat.le_of_ble_eq_true rfl⟩ hl.1 (Nat.le_of_ble_eq_true rfl) dX9_init_75 (fun nl H locs hp hW => ?_)
  obtain rfl := hp
  have hW := nW_r.mp hW
  have hW : nW G s wr ([(b, .inr (9, [.ref q1, .ref q9, .ref q21, .ref q24, .ref q28, .ref q32, .null, .null, .null]))] ++ (bReader G q1 r2 r3 r4 r5 r6 r7 r8) ++ (bDay G q9 r10 r11 r12 r13 r14 r15 r16 r17 r18 r19 r20) ++ (bHist G q21 r22 c23) ++ (bHeard G q24 r25 r26 r27) ++ (bWays G q28 r29 r30 r31) ++ (bSil G q32 r33) ++ (bRates q34)) _ _ := hW
  refine n_putF (ci := 9) (v := .ref q34) (ty := .object "AbsentBells$Rates") (q0 := 0) C hnm hW rfl rfl kin_X9 tyX9 tyX9_ok nmX9 6 (by decide) rfl rfl kf_X9_54 rfl (by decide +kernel) rfl rfl (Nat.le_of_ble_eq_true rfl) dX9_init_78 (fun H locs hW => ?_)
  have hW : nW G s wr ([(b, .inr (9, [.ref q1, .ref q9, .ref q21, .ref q24, .ref q28, .ref q32, .ref q34, .null, .null]))] ++ (bReader G q1 r2 r3 r4 r5 r6 r7 r8) ++ (bDay G q9 r10 r11 r12 r13 r14 r15 r16 r17 r18 r19 r20) ++ (bHist G q21 r22 c23) ++ (bHeard G q24 r25 r26 r27) ++ (bWays G q28 r29 r30 r31) ++ (bSil G q32 r33) ++ (bRates q34)) _ _ := hW
  refine lv_aload_n hx hb dX9_init_81 rfl (lv_at hl 0 rfl) ?_
  refine lv_iconst (v := nI 2) hx hb dX9_init_82 (by decide) ?_
  refine n_newQ (N' := 2) C hX hA hW kcl_X9_58 rfl (by decide) (Nat.le_of_ble_eq_true rfl) (Nat.le_of_ble_eq_true rfl) dX9_init_83 (fun q35 H hW => ?_)
  have hW : nW G s wr ([(b, .inr (9, [.ref q1, .ref q9, .ref q21, .ref q24, .ref q28, .ref q32, .ref q34, .null, .null]))] ++ (bReader G q1 r2 r3 r4 r5 r6 r7 r8) ++ (bDay G q9 r10 r11 r12 r13 r14 r15 r16 r17 r18 r19 r20) ++ (bHist G q21 r22 c23) ++ (bHeard G q24 r25 r26 r27) ++ (bWays G q28 r29 r30 r31) ++ (bSil G q32 r33) ++ (bRates q34) ++ [(q35, aQ G 2 (fun _ => none))]) _ _ := hW
  refine n_putF (ci := 9) (v := .ref q35) (ty := (.array (.object "AbsentBells$Moment"))) (q0 := 0) C hnm hW rfl rfl kin_X9 tyX9 tyX9_ok nmX9 7 (by decide) rfl rfl kf_X9_60 rfl (by decide +kernel) rfl rfl (Nat.le_of_ble_eq_true rfl) dX9_init_86 (fun H locs hW => ?_)
  have hW : nW G s wr ([(b, .inr (9, [.ref q1, .ref q9, .ref q21, .ref q24, .ref q28, .ref q32, .ref q34, .ref q35, .null]))] ++ (bReader G q1 r2 r3 r4 r5 r6 r7 r8) ++ (bDay G q9 r10 r11 r12 r13 r14 r15 r16 r17 r18 r19 r20) ++ (bHist G q21 r22 c23) ++ (bHeard G q24 r25 r26 r27) ++ (bWays G q28 r29 r30 r31) ++ (bSil G q32 r33) ++ (bRates q34) ++ [(q35, aQ G 2 (fun _ => none))]) _ _ := hW
  refine lv_iconst (v := nI 0) hx hb dX9_init_89 (by decide) ?_
  refine lv_istore_n (lv' := [(1, .int (nI 0)), (0, .ref b)]) hx hb dX9_init_90 rfl hl (by decide) rfl (fun ls hl => ?_)
  have LP : ∀ (n i : Nat) (cf : Nat → Nat → Nat) (H : Heap) (locs : List Loc) (ls : Array Slot), n + i = 2 → nW G s (wr ++ ([(b, .inr (9, [.ref q1, .ref q9, .ref q21, .ref q24, .ref q28, .ref q32, .ref q34, .ref q35, .null]))] ++ (bReader G q1 r2 r3 r4 r5 r6 r7 r8) ++ (bDay G q9 r10 r11 r12 r13 r14 r15 r16 r17 r18 r19 r20) ++ (bHist G q21 r22 c23) ++ (bHeard G q24 r25 r26 r27) ++ (bWays G q28 r29 r30 r31) ++ (bSil G q32 r33) ++ (bRates q34))) ([(q35, aQ G 2 (qoF cf i))] ++ bMoms G cf i) H locs → lv_has ls 2 [(1, .int (nI i)), (0, .ref b)] → W p l e (nR 3 61 95 2895) s m args below meth c H locs (84 + 5 * i) (2835 + 29 * i) (MQ below (va_Qv (fun nl => ∃ ad ch cm, ad 0 = b ∧ nl = bBells G ad ch cm) (fun nl => nP G (wr ++ nl)) (gA G)) args s 95 2895 (gA G)) (F0 m 91 ls []) := by
    intro n
    induction n with
    | zero =>
      intro i cf H locs ls hm hW hl
      refine lv_iload_n hx hb dX9_init_91 rfl (lv_at hl 0 rfl) ?_
      refine lv_iconst (v := nI 2) hx hb dX9_init_92 (by decide) ?_
      refine lv_icmp_ge (tgt := 115) hx hb dX9_init_93 (by decide) (fun _ => ?_) (fun zz => absurd (nI_le (by omega) (by omega)) zz)
      obtain rfl : i = 2 := by omega
      have hW := nW_r.mp hW
      refine lv_aload_n hx hb dX9_init_115 rfl (lv_at hl 1 rfl) ?_
      refine lv_iconst (v := nI 2) hx hb dX9_init_116 (by decide) ?_
      refine n_newZ (N' := 2) C hA hW rfl (by decide) (Nat.le_of_ble_eq_true rfl) (Nat.le_of_ble_eq_true rfl) dX9_init_117 (fun q36 H hW => ?_)
      have hW : nW G s wr ([(b, .inr (9, [.ref q1, .ref q9, .ref q21, .ref q24, .ref q28, .ref q32, .ref q34, .ref q35, .null]))] ++ (bReader G q1 r2 r3 r4 r5 r6 r7 r8) ++ (bDay G q9 r10 r11 r12 r13 r14 r15 r16 r17 r18 r19 r20) ++ (bHist G q21 r22 c23) ++ (bHeard G q24 r25 r26 r27) ++ (bWays G q28 r29 r30 r31) ++ (bSil G q32 r33) ++ (bRates q34) ++ ([(q35, aQ G 2 (qoF cf 2))] ++ bMoms G cf 2) ++ [(q36, .inl (G.2.1.2.1, 2, .inl (fun _ => 0)))]) _ _ := hW
      refine n_putF (ci := 9) (v := .ref q36) (ty := (.array .boolean)) (q0 := 0) C hnm hW rfl rfl kin_X9 tyX9 tyX9_ok nmX9 8 (by decide) rfl rfl kf_X9_65 rfl (by decide +kernel) rfl rfl (Nat.le_of_ble_eq_true rfl) dX9_init_119 (fun H locs hW => ?_)
      have hW : nW G s wr ([(b, .inr (9, [.ref q1, .ref q9, .ref q21, .ref q24, .ref q28, .ref q32, .ref q34, .ref q35, .ref q36]))] ++ (bReader G q1 r2 r3 r4 r5 r6 r7 r8) ++ (bDay G q9 r10 r11 r12 r13 r14 r15 r16 r17 r18 r19 r20) ++ (bHist G q21 r22 c23) ++ (bHeard G q24 r25 r26 r27) ++ (bWays G q28 r29 r30 r31) ++ (bSil G q32 r33) ++ (bRates q34) ++ ([(q35, aQ G 2 (qoF cf 2))] ++ bMoms G cf 2) ++ [(q36, .inl (G.2.1.2.1, 2, .inl (fun _ => 0)))]) _ _ := hW
      exact n_ret C hX hA hr hlk hW ⟨fun i => [b, q1, r2, r3, r4, r5, r6, r7, r8, q9, r10, r11, r12, r13, r14, r15, r16, r17, r18, r19, r20, q21, r22, 0, 0, 0, 0, 0, 0, 0, 0, 0, 0, 0, 0, 0, 0, 0, 0, 0, 0, 0, 0, 0, 0, 0, 0, 0, 0, 0, 0, 0, 0, 0, 0, 0, 0, 0, 0, 0, 0, 0, 0, 0, 0, 0, 0, 0, 0, 0, 0, 0, 0, q24, r25, r26, r27, q28, r29, r30, r31, q32, r33, q34, q35, 0, 0, 0, 0, 0, 0, 0, 0, 0, 0, q36].getD i 0, c23, cf, rfl, rfl⟩ (Nat.le_of_ble_eq_true rfl) (Nat.le_of_ble_eq_true rfl) dX9_init_122
    | succ n ih =>
      intro i cf H locs ls hm hW hl
      refine lv_iload_n hx hb dX9_init_91 rfl (lv_at hl 0 rfl) ?_
      refine lv_iconst (v := nI 2) hx hb dX9_init_92 (by decide) ?_
      refine lv_icmp_ge (tgt := 115) hx hb dX9_init_93 (by decide) (fun zz => absurd zz (nI_ge (by omega) (by omega))) (fun _ => ?_)
      refine lv_aload_n hx hb dX9_init_96 rfl (lv_at hl 1 rfl) ?_
      refine n_get (ci := 9) (v := .ref q35) (q0 := 0) C (nW_r.mp hW) rfl rfl kin_X9 7 (by decide) rfl kf_X9_60 rfl dX9_init_97 ?_
      refine lv_iload_n hx hb dX9_init_100 rfl (lv_at hl 0 rfl) ?_
      refine n_new (ci := 3) (fs := [.int 0, .int 0, .null, .null, .null, .null]) (Cn := RX3) (T := TX3) (N := 6) C hA hW kin_X3 tyX3 tyX3_ok kcl_X9_58 kins_X3 kini_X3 rfl (fun j hj => by rcases (show j = 0 ∨ j = 1 ∨ j = 2 ∨ j = 3 ∨ j = 4 ∨ j = 5 by omega) with rfl | rfl | rfl | rfl | rfl | rfl <;> rfl) (by show _ ≤ 95; omega) (by show _ ≤ 2895; omega) dX9_init_101 (fun q H hW => ?_)
      refine lv_dup hx hb dX9_init_104 rfl ?_
      have hW := nW_r.mpr hW
      refine n_callN hX.2.2.2.2.2.2.2.2.2.2.2 C hX hA hW (n_X3 l G ((wr ++ ([(b, .inr (9, [.ref q1, .ref q9, .ref q21, .ref q24, .ref q28, .ref q32, .ref q34, .ref q35, .null]))] ++ (bReader G q1 r2 r3 r4 r5 r6 r7 r8) ++ (bDay G q9 r10 r11 r12 r13 r14 r15 r16 r17 r18 r19 r20) ++ (bHist G q21 r22 c23) ++ (bHeard G q24 r25 r26 r27) ++ (bWays G q28 r29 r30 r31) ++ (bSil G q32 r33) ++ (bRates q34))) ++ ([(q35, aQ G 2 (qoF cf i))] ++ bMoms G cf i)) q) kco_X3_init kini_X3 kim_X3_init rfl (by decide +kernel) ⟨Nat.le_of_ble_eq_true rfl, Nat.le_of_ble_eq_true rfl⟩ ⟨by show _ ≤ 95; omega, by show _ ≤ 2895; omega⟩ hl.1 (Nat.le_of_ble_eq_true rfl) dX9_init_105 (fun nl H locs hp hW => ?_)
      obtain ⟨t1, t2, t3, t4, rfl⟩ := hp
      have hW := nW_r.mp hW
      refine n_astq (q0 := 0) (qk := ([(q35, aQ G 2 (qoF cf i))] ++ bMoms G cf i).length) C hW rfl (n_mid (l1 := [(q35, aQ G 2 (qoF cf i))] ++ bMoms G cf i) (l2 := (bMom G q t1 t2 t3 t4).tail)) (vp_in_nI (by omega) (by omega)) dX9_init_108 (fun H locs hW => ?_)
      obtain ⟨cf2, h1, h2⟩ : ∃ cf2 : Nat → Nat → Nat, (∀ j, j < i → cf2 j = cf j) ∧ cf2 i = (fun k => if k = 0 then q else if k = 1 then t1 else if k = 2 then t2 else if k = 3 then t3 else t4) := ⟨va_up cf i (fun k => if k = 0 then q else if k = 1 then t1 else if k = 2 then t2 else if k = 3 then t3 else t4), fun j hj => if_neg (by omega), if_pos rfl⟩
      have e2 : bMoms G cf2 (i + 1) = bMoms G cf i ++ bMom G q t1 t2 t3 t4 := by rw [bMoms, bMoms_cg i h1, h2]; rfl
      have hW : nW G s (wr ++ ([(b, .inr (9, [.ref q1, .ref q9, .ref q21, .ref q24, .ref q28, .ref q32, .ref q34, .ref q35, .null]))] ++ (bReader G q1 r2 r3 r4 r5 r6 r7 r8) ++ (bDay G q9 r10 r11 r12 r13 r14 r15 r16 r17 r18 r19 r20) ++ (bHist G q21 r22 c23) ++ (bHeard G q24 r25 r26 r27) ++ (bWays G q28 r29 r30 r31) ++ (bSil G q32 r33) ++ (bRates q34))) ([(q35, aQ G 2 (qoF cf2 (i + 1)))] ++ bMoms G cf2 (i + 1)) H locs := by
        rw [nI_clamp (by omega), qoF_up h1 (by rw [h2]; rfl)] at hW
        rw [e2]; exact hW
      refine lv_iinc (v := nI (i + 1)) (lv' := [(1, .int (nI (i + 1))), (0, .ref b)]) hx hb dX9_init_109 hl (k := 0) rfl (nI_add i 1) (by decide) rfl (fun ls hl => ?_)
      refine lv_goto (tgt := 91) hx hb dX9_init_112 (by decide) ?_
      refine W.widen (k := 84 + 5 * (i + 1)) (n := 2835 + 29 * (i + 1)) (by omega) (by omega) ?_
      exact ih (i + 1) cf2 H locs ls (by omega) hW hl
  have hW : nW G s (wr ++ ([(b, .inr (9, [.ref q1, .ref q9, .ref q21, .ref q24, .ref q28, .ref q32, .ref q34, .ref q35, .null]))] ++ (bReader G q1 r2 r3 r4 r5 r6 r7 r8) ++ (bDay G q9 r10 r11 r12 r13 r14 r15 r16 r17 r18 r19 r20) ++ (bHist G q21 r22 c23) ++ (bHeard G q24 r25 r26 r27) ++ (bWays G q28 r29 r30 r31) ++ (bSil G q32 r33) ++ (bRates q34))) ([(q35, aQ G 2 (qoF (fun _ _ => 0) 0))] ++ bMoms G (fun _ _ => 0) 0) H locs := by
    rw [← qoF_0]; exact nW_r.mpr hW
  exact LP 2 0 (fun _ _ => 0) _ _ ls rfl hW hl
