/-! ===== the class: ways ===== -/
def kTo (f : Nat → Int32) (c own : Int32) : Nat → Nat → Int32
  | 0, _ => own
  | n + 1, t => if f t = c then nI t else kTo f c own n (t + 1)
set_option maxHeartbeats 4000000 in
set_option maxRecDepth 100000 in
theorem k_arr (l : Launch) (G : gG) (σ : gSt) (τ : Nat → Int64) (a0 a1 a2 : Int32) (mi g t : Nat) (h1 : a0 = nI mi) (h2 : a1 = nI g) (h3 : a2 = nI t) (hmi2 : mi ≤ 240) (hg : g ≤ 1000) (ht : t < 6) : gI l yX8_tollsArriving cX8_tollsArriving 5 (some .int) 1 21 G [.ref (gAd G 77), .int a0, .int a1, .int a2] σ τ (kArr (σ 79) (σ 80) mi g t) σ τ := by
  refine gMet_of (by decide) (Nat.le_of_ble_eq_true rfl) ?_
  intro p e s m args below meth c C hr hlk ls hl hW
  have hx := C.1
  have hb := C.2.1
  have hl : lv_has ls 5 [(0, .ref (gAd G 77)), (1, .int a0), (2, .int a1), (3, .int a2)] := hl
  rw [h1, h2, h3] at hl
  have hmn : min 240 (mi + g) ≤ 240 := Nat.min_le_left _ _
  refine lv_sipush (v := 240) hx hb dX8_tollsArriving_0 (by decide) ?_
  refine lv_iload_n hx hb dX8_tollsArriving_3 rfl (lv_at hl 1 rfl) ?_
  refine lv_iload_n hx hb dX8_tollsArriving_4 rfl (lv_at hl 2 rfl) ?_
  refine lv_iadd hx hb dX8_tollsArriving_5 ?_
  refine g_min C hl.1 kml_X8_54 (Nat.le_of_ble_eq_true rfl) (Nat.le_of_ble_eq_true rfl) (Nat.le_refl _) (Nat.le_refl _) dX8_tollsArriving_6 ?_
  rw [kmin240 hmi2 hg]
  refine lv_istore (lv' := [(4, .int (nI (min 240 (mi + g)))), (0, .ref (gAd G 77)), (1, .int (nI mi)), (2, .int (nI g)), (3, .int (nI t))]) hx hb dX8_tollsArriving_9 hl (by decide) rfl (fun ls hl => ?_)
  refine lv_aload_n hx hb dX8_tollsArriving_11 rfl (lv_at hl 1 rfl) ?_
  refine gf_X8_15 C hW (by decide) rfl dX8_tollsArriving_12 ?_
  refine lv_iload_n hx hb dX8_tollsArriving_15 rfl (lv_at hl 2 rfl) ?_
  refine g_ald (v := σ 79 mi) mi C hW (by decide) rfl rfl (show mi < 241 by omega) (by decide) rfl dX8_tollsArriving_16 ?_
  refine lv_aload_n hx hb dX8_tollsArriving_17 rfl (lv_at hl 1 rfl) ?_
  refine gf_X8_15 C hW (by decide) rfl dX8_tollsArriving_18 ?_
  refine lv_iload hx hb dX8_tollsArriving_21 (lv_at hl 0 rfl) ?_
  refine g_ald (v := σ 79 (min 240 (mi + g))) (min 240 (mi + g)) C hW (by decide) rfl rfl (show (min 240 (mi + g)) < 241 by omega) (by decide) rfl dX8_tollsArriving_23 ?_
  refine lv_isub hx hb dX8_tollsArriving_24 ?_
  refine lv_aload_n hx hb dX8_tollsArriving_25 rfl (lv_at hl 1 rfl) ?_
  refine gf_X8_18 C hW (by decide) rfl dX8_tollsArriving_26 ?_
  refine lv_iload hx hb dX8_tollsArriving_29 (lv_at hl 0 rfl) ?_
  refine lv_bipush (v := 6) hx hb dX8_tollsArriving_31 (by decide) ?_
  refine lv_imul hx hb dX8_tollsArriving_33 ?_
  refine lv_iload_n hx hb dX8_tollsArriving_34 rfl (lv_at hl 4 rfl) ?_
  refine lv_iadd hx hb dX8_tollsArriving_35 ?_
  refine g_ald (v := σ 80 (((min 240 (mi + g)) * 6) + t)) (((min 240 (mi + g)) * 6) + t) C hW (by decide) rfl (gadd (gmul (rfl : nI (min 240 (mi + g)) = nI (min 240 (mi + g))) (rfl : 6 = nI 6)) (rfl : nI t = nI t)) (show (((min 240 (mi + g)) * 6) + t) < 1446 by omega) (by decide) rfl dX8_tollsArriving_36 ?_
  refine lv_iadd hx hb dX8_tollsArriving_37 ?_
  exact g_iret C hr hlk hW dX8_tollsArriving_38 (rfl) (rfl) (rfl)
set_option maxHeartbeats 4000000 in
set_option maxRecDepth 100000 in
theorem k_tolls (l : Launch) (G : gG) (σ : gSt) (τ : Nat → Int64) (a0 a1 a2 : Int32) (mi a t : Nat) (h1 : a0 = nI mi) (h2 : a1 = nI a) (h3 : a2 = nI t) (hmi2 : mi < 240) (ha : a < 6) (ht : t < 6) (wk : Nat) (hwk : σ 10 3 = nI wk) (hwk9 : wk ≤ 9) : gI l yX8_tolls cX8_tolls 6 (some .int) 2 45 G [.ref (gAd G 77), .ref (gAd G 10), .int a0, .int a1, .int a2] σ τ (sTolls σ wk mi a t) σ τ := by
  refine gMet_of (by decide) (Nat.le_of_ble_eq_true rfl) ?_
  intro p e s m args below meth c C hr hlk ls hl hW
  have hx := C.1
  have hb := C.2.1
  have hl : lv_has ls 6 [(0, .ref (gAd G 77)), (1, .ref (gAd G 10)), (2, .int a0), (3, .int a1), (4, .int a2)] := hl
  rw [h1, h2, h3] at hl
  refine lv_iload_n hx hb dX8_tolls_0 rfl (lv_at hl 3 rfl) ?_
  refine lv_iload hx hb dX8_tolls_1 (lv_at hl 4 rfl) ?_
  refine lv_icmp_ne (tgt := 45) hx hb dX8_tolls_3 (by decide) (fun c_1 => ?_) (fun c_1 => ?_)
  · skip
    replace c_1 : ¬ a = t := mt (nI_eq (a := a) (b := t) (by omega) (by omega)).mpr c_1
    have hnd : wk * nd a t ≤ 1000 := by
      have q : nd a t ≤ 6 := by unfold nd; split <;> omega
      exact Nat.le_trans (Nat.mul_le_mul hwk9 q) (by decide)
    refine lv_aload_n hx hb dX8_tolls_45 rfl (lv_at hl 0 rfl) ?_
    refine lv_iload_n hx hb dX8_tolls_46 rfl (lv_at hl 2 rfl) ?_
    refine lv_aload_n hx hb dX8_tolls_47 rfl (lv_at hl 1 rfl) ?_
    refine lv_iload_n hx hb dX8_tolls_48 rfl (lv_at hl 3 rfl) ?_
    refine lv_iload hx hb dX8_tolls_49 (lv_at hl 4 rfl) ?_
    refine g_callvI (r := kMB (σ 10 3) (nI a) (nI t)) (σ' := σ) (rest := [.int (nI mi), .ref (gAd G 77)]) (As := [.int (nI a), .int (nI t)]) C hW kv_X8_59 10 (by decide) (gL_4 rfl) rfl (k_mb l G σ τ (nI a) (nI t)) ⟨Nat.le_of_ble_eq_true rfl, Nat.le_of_ble_eq_true rfl⟩ ⟨Nat.le_refl _, Nat.le_refl _⟩ rfl hl.1 rfl (Nat.le_of_ble_eq_true rfl) dX8_tolls_51 (fun H locs hW => ?_)
    refine lv_iload hx hb dX8_tolls_54 (lv_at hl 4 rfl) ?_
    refine g_callvI (r := kArr (σ 79) (σ 80) mi (wk * nd a t) t) (σ' := σ) (rest := []) (As := [.int (nI mi), .int (kMB (σ 10 3) (nI a) (nI t)), .int (nI t)]) C hW kv_X8_62 77 (by decide) (gL_8 rfl) rfl (k_arr l G σ τ (nI mi) (kMB (σ 10 3) (nI a) (nI t)) (nI t) mi (wk * nd a t) t rfl (by rw [hwk]; exact kMB_nat (by omega) (by omega)) rfl (by omega) hnd ht) ⟨Nat.le_of_ble_eq_true rfl, Nat.le_of_ble_eq_true rfl⟩ ⟨Nat.le_refl _, Nat.le_refl _⟩ rfl hl.1 rfl (Nat.le_of_ble_eq_true rfl) dX8_tolls_56 (fun H locs hW => ?_)
    exact g_iret C hr hlk hW dX8_tolls_59 (by rw [sTolls, kTolls, if_neg c_1]) (rfl) (rfl)
  · skip
    replace c_1 : a = t := (nI_eq (a := a) (b := t) (by omega) (by omega)).mp c_1
    have K26 : ∀ (z : Int32), z = (kRg (σ 78 mi) a) → ∀ (H : Heap) (locs : List Loc) (ls : Array Slot), gW G s σ τ H locs → lv_has ls 6 [(0, .ref (gAd G 77)), (1, .ref (gAd G 10)), (2, .int (nI mi)), (3, .int (nI a)), (4, .int (nI t))] → W p l e (gRm 2 45) s m args below meth c H locs 0 0 (MQ below (gQi G (sTolls σ wk mi a t) σ τ) args s 0 0 (gA G)) (F0 m 26 ls [.int z]) := by
      intro z hz H locs ls hW hl
      refine lv_istore (lv' := [(5, .int z), (0, .ref (gAd G 77)), (1, .ref (gAd G 10)), (2, .int (nI mi)), (3, .int (nI a)), (4, .int (nI t))]) hx hb dX8_tolls_26 hl (by decide) rfl (fun ls hl => ?_)
      refine lv_iload hx hb dX8_tolls_28 (lv_at hl 0 rfl) ?_
      refine lv_aload_n hx hb dX8_tolls_30 rfl (lv_at hl 1 rfl) ?_
      refine gf_X8_18 C hW (by decide) rfl dX8_tolls_31 ?_
      refine lv_iload_n hx hb dX8_tolls_34 rfl (lv_at hl 3 rfl) ?_
      refine lv_iconst (v := 1) hx hb dX8_tolls_35 (by decide) ?_
      refine lv_iadd hx hb dX8_tolls_36 ?_
      refine lv_bipush (v := 6) hx hb dX8_tolls_37 (by decide) ?_
      refine lv_imul hx hb dX8_tolls_39 ?_
      refine lv_iload_n hx hb dX8_tolls_40 rfl (lv_at hl 4 rfl) ?_
      refine lv_iadd hx hb dX8_tolls_41 ?_
      refine g_ald (v := σ 80 (((mi + 1) * 6) + a)) (((mi + 1) * 6) + a) C hW (by decide) rfl (gadd (gmul (gadd (rfl : nI mi = nI mi) (rfl : 1 = nI 1)) (rfl : 6 = nI 6)) (rfl : nI a = nI a)) (show (((mi + 1) * 6) + a) < 1446 by omega) (by decide) rfl dX8_tolls_42 ?_
      refine lv_iadd hx hb dX8_tolls_43 ?_
      exact g_iret C hr hlk hW dX8_tolls_44 (by rw [sTolls, kTolls, if_pos c_1, hz]) (rfl) (rfl)
    refine lv_aload_n hx hb dX8_tolls_6 rfl (lv_at hl 0 rfl) ?_
    refine gf_X8_9 C hW (by decide) rfl dX8_tolls_7 ?_
    refine lv_iload_n hx hb dX8_tolls_10 rfl (lv_at hl 2 rfl) ?_
    refine g_ald (v := σ 78 mi) mi C hW (by decide) rfl rfl (show mi < 240 by omega) (by decide) rfl dX8_tolls_11 ?_
    refine lv_iconst (v := 1) hx hb dX8_tolls_12 (by decide) ?_
    refine lv_iload_n hx hb dX8_tolls_13 rfl (lv_at hl 3 rfl) ?_
    refine lv_ishl hx hb dX8_tolls_14 ?_
    refine lv_iconst (v := (-1)) hx hb dX8_tolls_15 (by decide) ?_
    refine lv_ixor hx hb dX8_tolls_16 ?_
    refine lv_iand hx hb dX8_tolls_17 ?_
    refine lv_if_eq (tgt := 25) hx hb dX8_tolls_18 (by decide) (fun c_2 => ?_) (fun c_2 => ?_)
    · skip
      refine lv_iconst (v := 0) hx hb dX8_tolls_25 (by decide) ?_
      exact K26 0 (by rw [kRg, if_pos c_2]) _ _ _ hW (lv_sub hl [0, 1, 2, 3, 4] rfl)
    · skip
      refine lv_iconst (v := 1) hx hb dX8_tolls_21 (by decide) ?_
      refine lv_goto (tgt := 26) hx hb dX8_tolls_22 (by decide) ?_
      exact K26 1 (by rw [kRg, if_neg c_2]) _ _ _ hW (lv_sub hl [0, 1, 2, 3, 4] rfl)
set_option maxHeartbeats 4000000 in
set_option maxRecDepth 100000 in
theorem k_ff (l : Launch) (G : gG) (σ : gSt) (τ : Nat → Int64) (P : Nat) (hP : σ 10 0 = nI P) (hP6 : P ≤ 6) (a0 a1 : Int32) (mi a : Nat) (h1 : a0 = nI mi) (h2 : a1 = nI a) (hmi2 : mi < 240) (ha : a < P)  (wk : Nat) (hwk : σ 10 3 = nI wk) (hwk9 : wk ≤ 9) : gI l yX8_fewestFrom cX8_fewestFrom 5 (some .int) 3 70 G [.ref (gAd G 77), .ref (gAd G 10), .int a0, .int a1] σ τ (sFF σ wk P mi a) σ τ := by
  refine gMet_of (by decide) (Nat.le_of_ble_eq_true rfl) ?_
  intro p e s m args below meth c C hr hlk ls hl hW
  have hx := C.1
  have hb := C.2.1
  have hl : lv_has ls 5 [(0, .ref (gAd G 77)), (1, .ref (gAd G 10)), (2, .int a0), (3, .int a1)] := hl
  rw [h1, h2] at hl
  refine lv_aload_n hx hb dX8_fewestFrom_0 rfl (lv_at hl 0 rfl) ?_
  refine lv_aload_n hx hb dX8_fewestFrom_1 rfl (lv_at hl 1 rfl) ?_
  refine lv_iload_n hx hb dX8_fewestFrom_2 rfl (lv_at hl 2 rfl) ?_
  refine lv_iload_n hx hb dX8_fewestFrom_3 rfl (lv_at hl 3 rfl) ?_
  refine lv_iload_n hx hb dX8_fewestFrom_4 rfl (lv_at hl 3 rfl) ?_
  refine g_callvI (r := sTolls σ wk mi a a) (σ' := σ) (rest := []) (As := [.ref (gAd G 10), .int (nI mi), .int (nI a), .int (nI a)]) C hW kv_X8_50 77 (by decide) (gL_8 rfl) rfl (k_tolls l G σ τ (nI mi) (nI a) (nI a) mi a a rfl rfl rfl (by omega) (by omega) (by omega) wk hwk hwk9) ⟨Nat.le_of_ble_eq_true rfl, Nat.le_of_ble_eq_true rfl⟩ ⟨Nat.le_refl _, Nat.le_refl _⟩ rfl hl.1 rfl (Nat.le_of_ble_eq_true rfl) dX8_fewestFrom_5 (fun H locs hW => ?_)
  refine lv_istore (lv' := [(4, .int (sTolls σ wk mi a a)), (0, .ref (gAd G 77)), (1, .ref (gAd G 10)), (2, .int (nI mi)), (3, .int (nI a))]) hx hb dX8_fewestFrom_8 hl (by decide) rfl (fun ls hl => ?_)
  have K31 : ∀ (w : Int32), w = (kFF1 (σ 78) (σ 79) (σ 80) wk mi a) → ∀ (H : Heap) (locs : List Loc) (ls : Array Slot), gW G s σ τ H locs → lv_has ls 5 [(4, .int w), (0, .ref (gAd G 77)), (1, .ref (gAd G 10)), (2, .int (nI mi)), (3, .int (nI a))] → W p l e (gRm 3 70) s m args below meth c H locs 0 0 (MQ below (gQi G (sFF σ wk P mi a) σ τ) args s 0 0 (gA G)) (F0 m 31 ls []) := by
    intro w hw H locs ls hW hl
    refine lv_iload_n hx hb dX8_fewestFrom_31 rfl (lv_at hl 4 rfl) ?_
    refine lv_iconst (v := 1) hx hb dX8_fewestFrom_32 (by decide) ?_
    refine lv_iadd hx hb dX8_fewestFrom_33 ?_
    refine lv_aload_n hx hb dX8_fewestFrom_34 rfl (lv_at hl 2 rfl) ?_
    refine gf_X8_41 (v := nI P) C hW (by decide) rfl hP dX8_fewestFrom_35 ?_
    refine lv_icmp_ge (tgt := 58) hx hb dX8_fewestFrom_38 (by decide) (fun c_1 => ?_) (fun c_1 => ?_)
    · skip
      have qc_1 := c_1
      rw [(gadd (rfl : nI a = nI a) (rfl : 1 = nI 1))] at qc_1
      replace c_1 : P ≤ (a + 1) := (nI_leI (a := P) (b := (a + 1)) (by omega) (by omega)).mp qc_1
      refine lv_iload hx hb dX8_fewestFrom_58 (lv_at hl 0 rfl) ?_
      exact g_iret C hr hlk hW dX8_fewestFrom_60 (by rw [sFF, kFF, if_pos (by omega), hw]) (rfl) (rfl)
    · skip
      have qc_1 := c_1
      rw [(gadd (rfl : nI a = nI a) (rfl : 1 = nI 1))] at qc_1
      replace c_1 : (a + 1) < P := Nat.not_le.mp (mt (nI_leI (a := P) (b := (a + 1)) (by omega) (by omega)).mpr qc_1)
      refine lv_iload hx hb dX8_fewestFrom_41 (lv_at hl 0 rfl) ?_
      refine lv_aload_n hx hb dX8_fewestFrom_43 rfl (lv_at hl 1 rfl) ?_
      refine lv_aload_n hx hb dX8_fewestFrom_44 rfl (lv_at hl 2 rfl) ?_
      refine lv_iload_n hx hb dX8_fewestFrom_45 rfl (lv_at hl 3 rfl) ?_
      refine lv_iload_n hx hb dX8_fewestFrom_46 rfl (lv_at hl 4 rfl) ?_
      refine lv_iload_n hx hb dX8_fewestFrom_47 rfl (lv_at hl 4 rfl) ?_
      refine lv_iconst (v := 1) hx hb dX8_fewestFrom_48 (by decide) ?_
      refine lv_iadd hx hb dX8_fewestFrom_49 ?_
      refine g_callvI (r := sTolls σ wk mi a (a + 1)) (σ' := σ) (rest := [.int w]) (As := [.ref (gAd G 10), .int (nI mi), .int (nI a), .int ((nI a) + 1)]) C hW kv_X8_50 77 (by decide) (gL_8 rfl) rfl (k_tolls l G σ τ (nI mi) (nI a) ((nI a) + 1) mi a (a + 1) rfl rfl (gadd (rfl : nI a = nI a) (rfl : 1 = nI 1)) (by omega) (by omega) (by omega) wk hwk hwk9) ⟨Nat.le_of_ble_eq_true rfl, Nat.le_of_ble_eq_true rfl⟩ ⟨Nat.le_refl _, Nat.le_refl _⟩ rfl hl.1 rfl (Nat.le_of_ble_eq_true rfl) dX8_fewestFrom_50 (fun H locs hW => ?_)
      refine g_min C hl.1 kml_X8_54 (Nat.le_of_ble_eq_true rfl) (Nat.le_of_ble_eq_true rfl) (Nat.le_refl _) (Nat.le_refl _) dX8_fewestFrom_53 ?_
      refine lv_istore (lv' := [(4, .int (if sTolls σ wk mi a (a + 1) < w then sTolls σ wk mi a (a + 1) else w)), (0, .ref (gAd G 77)), (1, .ref (gAd G 10)), (2, .int (nI mi)), (3, .int (nI a))]) hx hb dX8_fewestFrom_56 hl (by decide) rfl (fun ls hl => ?_)
      refine lv_iload hx hb dX8_fewestFrom_58 (lv_at hl 0 rfl) ?_
      exact g_iret C hr hlk hW dX8_fewestFrom_60 (by rw [sFF, kFF, if_neg (show ¬ P ≤ a + 1 by omega), kLess, hw]) (rfl) (rfl)
  refine lv_iload_n hx hb dX8_fewestFrom_10 rfl (lv_at hl 4 rfl) ?_
  refine lv_if_le (tgt := 31) hx hb dX8_fewestFrom_11 (by decide) (fun c_2 => ?_) (fun c_2 => ?_)
  · skip
    replace c_2 : a ≤ 0 := (nI_leI (a := a) (b := 0) (by omega) (by omega)).mp c_2
    exact K31 (sTolls σ wk mi a a) (by rw [kFF1, if_pos c_2]) _ _ _ hW (lv_sub hl [0, 1, 2, 3, 4] rfl)
  · skip
    replace c_2 : 0 < a := Nat.not_le.mp (mt (nI_leI (a := a) (b := 0) (by omega) (by omega)).mpr c_2)
    refine lv_iload hx hb dX8_fewestFrom_14 (lv_at hl 0 rfl) ?_
    refine lv_aload_n hx hb dX8_fewestFrom_16 rfl (lv_at hl 1 rfl) ?_
    refine lv_aload_n hx hb dX8_fewestFrom_17 rfl (lv_at hl 2 rfl) ?_
    refine lv_iload_n hx hb dX8_fewestFrom_18 rfl (lv_at hl 3 rfl) ?_
    refine lv_iload_n hx hb dX8_fewestFrom_19 rfl (lv_at hl 4 rfl) ?_
    refine lv_iload_n hx hb dX8_fewestFrom_20 rfl (lv_at hl 4 rfl) ?_
    refine lv_iconst (v := 1) hx hb dX8_fewestFrom_21 (by decide) ?_
    refine lv_isub hx hb dX8_fewestFrom_22 ?_
    refine g_callvI (r := sTolls σ wk mi a (a - 1)) (σ' := σ) (rest := [.int (sTolls σ wk mi a a)]) (As := [.ref (gAd G 10), .int (nI mi), .int (nI a), .int ((nI a) - 1)]) C hW kv_X8_50 77 (by decide) (gL_8 rfl) rfl (k_tolls l G σ τ (nI mi) (nI a) ((nI a) - 1) mi a (a - 1) rfl rfl (gsub (rfl : nI a = nI a) (rfl : 1 = nI 1) (by omega)) (by omega) (by omega) (by omega) wk hwk hwk9) ⟨Nat.le_of_ble_eq_true rfl, Nat.le_of_ble_eq_true rfl⟩ ⟨Nat.le_refl _, Nat.le_refl _⟩ rfl hl.1 rfl (Nat.le_of_ble_eq_true rfl) dX8_fewestFrom_23 (fun H locs hW => ?_)
    refine g_min C hl.1 kml_X8_54 (Nat.le_of_ble_eq_true rfl) (Nat.le_of_ble_eq_true rfl) (Nat.le_refl _) (Nat.le_refl _) dX8_fewestFrom_26 ?_
    refine lv_istore (lv' := [(4, .int (if sTolls σ wk mi a (a - 1) < sTolls σ wk mi a a then sTolls σ wk mi a (a - 1) else sTolls σ wk mi a a)), (0, .ref (gAd G 77)), (1, .ref (gAd G 10)), (2, .int (nI mi)), (3, .int (nI a))]) hx hb dX8_fewestFrom_29 hl (by decide) rfl (fun ls hl => ?_)
    exact K31 (if sTolls σ wk mi a (a - 1) < sTolls σ wk mi a a then sTolls σ wk mi a (a - 1) else sTolls σ wk mi a a) (by rw [kFF1, if_neg (show ¬ a ≤ 0 by omega)]; rfl) _ _ _ hW (lv_sub hl [0, 1, 2, 3, 4] rfl)
set_option maxHeartbeats 4000000 in
set_option maxRecDepth 100000 in
theorem k_weigh (l : Launch) (G : gG) (σ : gSt) (τ : Nat → Int64) (a0 : Int32) (D : Nat) (hD : σ 10 2 = nI D) (hD8 : D ≤ 8) (P : Nat) (hP : σ 10 0 = nI P) (hP6 : P ≤ 6) (mi : Nat) (hmi : σ 16 0 = nI mi) (hmi2 : mi ≤ 240) (wk : Nat) (hwk : σ 10 3 = nI wk) (hwk9 : wk ≤ 9) : gV l yX8_weigh cX8_weigh 5 (none : Option Jvm.ClassFile.FieldType) 4 94 G [.ref (gAd G 77), .ref (gAd G 9), .int a0] σ τ (kWS σ a0 D wk P (240 - mi)) τ := by
  refine gMet_of (by decide) (Nat.le_of_ble_eq_true rfl) ?_
  intro p e s m args below meth c C hr hlk ls hl hW
  have hx := C.1
  have hb := C.2.1
  have hl : lv_has ls 5 [(0, .ref (gAd G 77)), (1, .ref (gAd G 9)), (2, .int a0)] := hl
  refine lv_sipush (v := 239) hx hb dX8_weigh_0 (by decide) ?_
  refine lv_istore_n (lv' := [(3, .int 239), (0, .ref (gAd G 77)), (1, .ref (gAd G 9)), (2, .int a0)]) hx hb dX8_weigh_3 rfl hl (by decide) rfl (fun ls hl => ?_)
  have L4 : ∀ (n : Nat) (j : Nat) (v : Int32) (H : Heap) (locs : List Loc) (ls : Array Slot), n + j = 240 - mi → v = (nI (mi + n) - 1) → gW G s (kWS σ a0 D wk P j) τ H locs → lv_has ls 5 [(3, .int v), (0, .ref (gAd G 77)), (1, .ref (gAd G 9)), (2, .int a0)] → W p l e (gRm 4 94) s m args below meth c H locs 0 0 (MQ below (gQv G (kWS σ a0 D wk P (240 - mi)) τ) args s 0 0 (gA G)) (F0 m 4 ls []) := by
    intro n
    induction n with
    | zero =>
      intro j v H locs ls hm hv hW hl
      refine lv_iload_n hx hb dX8_weigh_4 rfl (lv_at hl 0 rfl) ?_
      refine lv_aload_n hx hb dX8_weigh_5 rfl (lv_at hl 2 rfl) ?_
      refine gf_X8_21 C hW (by decide) rfl dX8_weigh_6 ?_
      refine gf_X8_27 (v := nI mi) C hW (by decide) rfl (by rw [kWS_ne (by decide) (by decide) (by decide)]; exact hmi) dX8_weigh_9 ?_
      refine lv_icmp_lt (tgt := 106) hx hb dX8_weigh_12 (by decide) (fun _ => ?_) (fun zz => absurd (show v < nI mi from by rw [hv]; exact pred_lt (by omega)) zz)
      exact g_vret C hr hlk hW dX8_weigh_106 (by rw [show j = 240 - mi by omega]) (rfl)
    | succ n ih4 =>
      intro j v H locs ls hm hv hW hl
      have hv2 : v = nI (mi + n) := by rw [hv]; exact nI_pred _
      refine lv_iload_n hx hb dX8_weigh_4 rfl (lv_at hl 0 rfl) ?_
      refine lv_aload_n hx hb dX8_weigh_5 rfl (lv_at hl 2 rfl) ?_
      refine gf_X8_21 C hW (by decide) rfl dX8_weigh_6 ?_
      refine gf_X8_27 (v := nI mi) C hW (by decide) rfl (by rw [kWS_ne (by decide) (by decide) (by decide)]; exact hmi) dX8_weigh_9 ?_
      refine lv_icmp_lt (tgt := 106) hx hb dX8_weigh_12 (by decide) (fun zz => absurd zz (by rw [hv2]; exact (show ¬ nI (mi + n) < nI mi from nI_nlt (by omega) (by omega)))) (fun _ => ?_)
      refine lv_aload_n hx hb dX8_weigh_15 rfl (lv_at hl 1 rfl) ?_
      refine gf_X8_9 C hW (by decide) rfl dX8_weigh_16 ?_
      refine lv_iload_n hx hb dX8_weigh_19 rfl (lv_at hl 0 rfl) ?_
      refine lv_aload_n hx hb dX8_weigh_20 rfl (lv_at hl 2 rfl) ?_
      refine lv_iload_n hx hb dX8_weigh_21 rfl (lv_at hl 3 rfl) ?_
      refine lv_iload_n hx hb dX8_weigh_22 rfl (lv_at hl 0 rfl) ?_
      refine g_callvI (r := sDueAt (kWS σ a0 D wk P j) a0 v D) (σ' := kWS σ a0 D wk P j) (rest := [.int v, .ref (gAd G 78)]) (As := [.int a0, .int v]) C hW kv_X8_33 9 (by decide) (gL_0 rfl) rfl (k_dueAt l G (kWS σ a0 D wk P j) τ a0 v D (by rw [kWS_ne (by decide) (by decide) (by decide)]; exact hD) hD8) ⟨Nat.le_of_ble_eq_true rfl, Nat.le_of_ble_eq_true rfl⟩ ⟨Nat.le_refl _, Nat.le_refl _⟩ rfl hl.1 rfl (Nat.le_of_ble_eq_true rfl) dX8_weigh_23 (fun H locs hW => ?_)
      refine g_ast (mi + n) C hW (by decide) rfl hv2 (show (mi + n) < 240 by omega) (by decide) dX8_weigh_26 (fun H locs hW => ?_)
      refine lv_aload_n hx hb dX8_weigh_27 rfl (lv_at hl 1 rfl) ?_
      refine gf_X8_15 C hW (by decide) rfl dX8_weigh_28 ?_
      refine lv_iload_n hx hb dX8_weigh_31 rfl (lv_at hl 0 rfl) ?_
      refine lv_aload_n hx hb dX8_weigh_32 rfl (lv_at hl 1 rfl) ?_
      refine gf_X8_15 C hW (by decide) rfl dX8_weigh_33 ?_
      refine lv_iload_n hx hb dX8_weigh_36 rfl (lv_at hl 0 rfl) ?_
      refine lv_iconst (v := 1) hx hb dX8_weigh_37 (by decide) ?_
      refine lv_iadd hx hb dX8_weigh_38 ?_
      refine g_ald (v := (kWS σ a0 D wk P j) 79 ((mi + n) + 1)) ((mi + n) + 1) C hW (by decide) rfl (gadd hv2 (rfl : 1 = nI 1)) (show ((mi + n) + 1) < 241 by omega) (by decide) rfl dX8_weigh_39 ?_
      have K54 : ∀ (z : Int32), z = (if sDueAt (kWS σ a0 D wk P j) a0 v D = 0 then 0 else 1) → ∀ (H : Heap) (locs : List Loc) (ls : Array Slot), gW G s (gu (kWS σ a0 D wk P j) 78 (mi + n) (sDueAt (kWS σ a0 D wk P j) a0 v D)) τ H locs → lv_has ls 5 [(3, .int v), (0, .ref (gAd G 77)), (1, .ref (gAd G 9)), (2, .int a0)] → W p l e (gRm 4 94) s m args below meth c H locs 0 0 (MQ below (gQv G (kWS σ a0 D wk P (240 - mi)) τ) args s 0 0 (gA G)) (F0 m 54 ls [.int z, .int ((kWS σ a0 D wk P j) 79 ((mi + n) + 1)), .int v, .ref (gAd G 79)]) := by
        intro z hz H locs ls hW hl
        refine lv_iadd hx hb dX8_weigh_54 ?_
        refine g_ast (mi + n) C hW (by decide) rfl hv2 (show (mi + n) < 241 by omega) (by decide) dX8_weigh_55 (fun H locs hW => ?_)
        rw [hz, hv2] at hW
        refine lv_iconst (v := 0) hx hb dX8_weigh_56 (by decide) ?_
        refine lv_istore (lv' := [(4, .int 0), (3, .int v), (0, .ref (gAd G 77)), (1, .ref (gAd G 9)), (2, .int a0)]) hx hb dX8_weigh_57 hl (by decide) rfl (fun ls hl => ?_)
        have L59 : ∀ (n_ : Nat) (a_ : Nat) (H : Heap) (locs : List Loc) (ls : Array Slot), n_ + a_ = P → gW G s (kW2 (kW1 (kWS σ a0 D wk P j) a0 D (mi + n)) wk P (mi + n) a_) τ H locs → lv_has ls 5 [(4, .int (nI a_)), (3, .int v), (0, .ref (gAd G 77)), (1, .ref (gAd G 9)), (2, .int a0)] → W p l e (gRm 4 94) s m args below meth c H locs 0 0 (MQ below (gQv G (kWS σ a0 D wk P (240 - mi)) τ) args s 0 0 (gA G)) (F0 m 59 ls []) := by
          intro n_
          induction n_ with
          | zero =>
            intro a_ H locs ls hm hW hl
            refine lv_iload hx hb dX8_weigh_59 (lv_at hl 0 rfl) ?_
            refine lv_aload_n hx hb dX8_weigh_61 rfl (lv_at hl 3 rfl) ?_
            refine gf_X8_37 C hW (by decide) rfl dX8_weigh_62 ?_
            refine gf_X8_41 (v := nI P) C hW (by decide) rfl (by rw [kW2_ne (by decide), kW1_ne (by decide) (by decide), kWS_ne (by decide) (by decide) (by decide)]; exact hP) dX8_weigh_65 ?_
            refine lv_icmp_ge (tgt := 100) hx hb dX8_weigh_68 (by decide) (fun _ => ?_) (fun zz => absurd (show nI P ≤ nI a_ from nI_le (by omega) (by omega)) zz)
            refine lv_iinc (v := v - 1) (lv' := [(3, .int (v - 1)), (4, .int (nI a_)), (0, .ref (gAd G 77)), (1, .ref (gAd G 9)), (2, .int a0)]) hx hb dX8_weigh_100 hl (k := 1) rfl (gdec _) (by decide) rfl (fun ls hl => ?_)
            refine lv_goto (tgt := 4) hx hb dX8_weigh_103 (by decide) ?_
            exact ih4 (j + 1) (v - 1) _ _ _ (by omega) (by rw [hv2]) (by have ha_ : a_ = P := (by omega); subst ha_; rw [kWS, show 239 - j = mi + n by omega]; exact hW) (lv_sub hl [0, 2, 3, 4] rfl)
          | succ n_ ih59 =>
            intro a_ H locs ls hm hW hl
            refine lv_iload hx hb dX8_weigh_59 (lv_at hl 0 rfl) ?_
            refine lv_aload_n hx hb dX8_weigh_61 rfl (lv_at hl 3 rfl) ?_
            refine gf_X8_37 C hW (by decide) rfl dX8_weigh_62 ?_
            refine gf_X8_41 (v := nI P) C hW (by decide) rfl (by rw [kW2_ne (by decide), kW1_ne (by decide) (by decide), kWS_ne (by decide) (by decide) (by decide)]; exact hP) dX8_weigh_65 ?_
            refine lv_icmp_ge (tgt := 100) hx hb dX8_weigh_68 (by decide) (fun zz => absurd zz (show ¬ nI P ≤ nI a_ from nI_ge (by omega) (by omega))) (fun _ => ?_)
            refine lv_aload_n hx hb dX8_weigh_71 rfl (lv_at hl 2 rfl) ?_
            refine gf_X8_18 C hW (by decide) rfl dX8_weigh_72 ?_
            refine lv_iload_n hx hb dX8_weigh_75 rfl (lv_at hl 1 rfl) ?_
            refine lv_bipush (v := 6) hx hb dX8_weigh_76 (by decide) ?_
            refine lv_imul hx hb dX8_weigh_78 ?_
            refine lv_iload hx hb dX8_weigh_79 (lv_at hl 0 rfl) ?_
            refine lv_iadd hx hb dX8_weigh_81 ?_
            refine lv_aload_n hx hb dX8_weigh_82 rfl (lv_at hl 2 rfl) ?_
            refine lv_aload_n hx hb dX8_weigh_83 rfl (lv_at hl 3 rfl) ?_
            refine gf_X8_37 C hW (by decide) rfl dX8_weigh_84 ?_
            refine lv_iload_n hx hb dX8_weigh_87 rfl (lv_at hl 1 rfl) ?_
            refine lv_iload hx hb dX8_weigh_88 (lv_at hl 0 rfl) ?_
            refine g_callvI (r := sFF (kW2 (kW1 (kWS σ a0 D wk P j) a0 D (mi + n)) wk P (mi + n) a_) wk P (mi + n) a_) (σ' := kW2 (kW1 (kWS σ a0 D wk P j) a0 D (mi + n)) wk P (mi + n) a_) (rest := [.int ((v * 6) + (nI a_)), .ref (gAd G 80)]) (As := [.ref (gAd G 10), .int v, .int (nI a_)]) C hW kv_X8_46 77 (by decide) (gL_8 rfl) rfl (k_ff l G (kW2 (kW1 (kWS σ a0 D wk P j) a0 D (mi + n)) wk P (mi + n) a_) τ P (by rw [kW2_ne (by decide), kW1_ne (by decide) (by decide), kWS_ne (by decide) (by decide) (by decide)]; exact hP) hP6 v (nI a_) (mi + n) a_ hv2 rfl (by omega) (by omega) wk (by rw [kW2_ne (by decide), kW1_ne (by decide) (by decide), kWS_ne (by decide) (by decide) (by decide)]; exact hwk) hwk9) ⟨Nat.le_of_ble_eq_true rfl, Nat.le_of_ble_eq_true rfl⟩ ⟨Nat.le_refl _, Nat.le_refl _⟩ rfl hl.1 rfl (Nat.le_of_ble_eq_true rfl) dX8_weigh_90 (fun H locs hW => ?_)
            refine g_ast (((mi + n) * 6) + a_) C hW (by decide) rfl (gadd (gmul hv2 (rfl : 6 = nI 6)) (rfl : nI a_ = nI a_)) (show (((mi + n) * 6) + a_) < 1446 by omega) (by decide) dX8_weigh_93 (fun H locs hW => ?_)
            refine lv_iinc (v := nI (a_ + 1)) (lv' := [(4, .int (nI (a_ + 1))), (3, .int v), (0, .ref (gAd G 77)), (1, .ref (gAd G 9)), (2, .int a0)]) hx hb dX8_weigh_94 hl (k := 0) rfl (nI_1 _) (by decide) rfl (fun ls hl => ?_)
            refine lv_goto (tgt := 59) hx hb dX8_weigh_97 (by decide) ?_
            exact ih59 (a_ + 1) _ _ _ (by omega)  (by rw [kW2]; exact hW) (lv_sub hl [0, 1, 2, 3, 4] rfl)
        exact L59 P 0 _ _ _ (by omega)  hW (lv_sub hl [0, 1, 2, 3, 4] rfl)
      refine lv_aload_n hx hb dX8_weigh_40 rfl (lv_at hl 1 rfl) ?_
      refine gf_X8_9 C hW (by decide) rfl dX8_weigh_41 ?_
      refine lv_iload_n hx hb dX8_weigh_44 rfl (lv_at hl 0 rfl) ?_
      refine g_ald (v := sDueAt (kWS σ a0 D wk P j) a0 v D) (mi + n) C hW (by decide) rfl hv2 (show (mi + n) < 240 by omega) (by decide) (by rw [gu_at, if_pos ⟨rfl, rfl⟩]) dX8_weigh_45 ?_
      refine lv_if_eq (tgt := 53) hx hb dX8_weigh_46 (by decide) (fun c_1 => ?_) (fun c_1 => ?_)
      · skip
        refine lv_iconst (v := 0) hx hb dX8_weigh_53 (by decide) ?_
        exact K54 0 (by rw [if_pos c_1]) _ _ _ hW (lv_sub hl [0, 1, 2, 3] rfl)
      · skip
        refine lv_iconst (v := 1) hx hb dX8_weigh_49 (by decide) ?_
        refine lv_goto (tgt := 54) hx hb dX8_weigh_50 (by decide) ?_
        exact K54 1 (by rw [if_neg c_1]) _ _ _ hW (lv_sub hl [0, 1, 2, 3] rfl)
  exact L4 (240 - mi) 0 239 _ _ _ (by omega) (by rw [show mi + (240 - mi) = 240 by omega]; rfl) hW (lv_sub hl [0, 1, 2, 3] rfl)
set_option maxHeartbeats 4000000 in
set_option maxRecDepth 100000 in
theorem k_fewestTolls (l : Launch) (G : gG) (σ : gSt) (τ : Nat → Int64) (a0 : Int32) (mi : Nat) (hmi : σ 16 0 = nI mi) (hmi2 : mi ≤ 240) (k a g : Nat) (hk : a0 = nI k) (hk5 : k < 5) (hat : σ 17 k = nI a) (ha6 : a < 6) (hgo : σ 18 k = nI g) (hg : g ≤ 1000) : gI l yX8_fewestTolls cX8_fewestTolls 3 (some .int) 2 45 G [.ref (gAd G 77), .ref (gAd G 16), .int a0] σ τ (kArr (σ 79) (σ 80) mi g a) σ τ := by
  refine gMet_of (by decide) (Nat.le_of_ble_eq_true rfl) ?_
  intro p e s m args below meth c C hr hlk ls hl hW
  have hx := C.1
  have hb := C.2.1
  have hl : lv_has ls 3 [(0, .ref (gAd G 77)), (1, .ref (gAd G 16)), (2, .int a0)] := hl
  refine lv_aload_n hx hb dX8_fewestTolls_0 rfl (lv_at hl 0 rfl) ?_
  refine lv_aload_n hx hb dX8_fewestTolls_1 rfl (lv_at hl 1 rfl) ?_
  refine gf_X8_27 (v := nI mi) C hW (by decide) rfl hmi dX8_fewestTolls_2 ?_
  refine lv_aload_n hx hb dX8_fewestTolls_5 rfl (lv_at hl 1 rfl) ?_
  refine gf_X8_66 C hW (by decide) rfl dX8_fewestTolls_6 ?_
  refine lv_iload_n hx hb dX8_fewestTolls_9 rfl (lv_at hl 2 rfl) ?_
  refine g_ald (v := nI g) k C hW (by decide) rfl hk (show k < 5 by omega) (by decide) hgo dX8_fewestTolls_10 ?_
  refine lv_aload_n hx hb dX8_fewestTolls_11 rfl (lv_at hl 1 rfl) ?_
  refine gf_X8_69 C hW (by decide) rfl dX8_fewestTolls_12 ?_
  refine lv_iload_n hx hb dX8_fewestTolls_15 rfl (lv_at hl 2 rfl) ?_
  refine g_ald (v := nI a) k C hW (by decide) rfl hk (show k < 5 by omega) (by decide) hat dX8_fewestTolls_16 ?_
  refine g_callvI (r := kArr (σ 79) (σ 80) mi g a) (σ' := σ) (rest := []) (As := [.int (nI mi), .int (nI g), .int (nI a)]) C hW kv_X8_62 77 (by decide) (gL_8 rfl) rfl (k_arr l G σ τ (nI mi) (nI g) (nI a) mi g a rfl rfl rfl (by omega) hg ha6) ⟨Nat.le_of_ble_eq_true rfl, Nat.le_of_ble_eq_true rfl⟩ ⟨Nat.le_refl _, Nat.le_refl _⟩ rfl hl.1 rfl (Nat.le_of_ble_eq_true rfl) dX8_fewestTolls_17 (fun H locs hW => ?_)
  exact g_iret C hr hlk hW dX8_fewestTolls_20 (rfl) (rfl) (rfl)
set_option maxHeartbeats 4000000 in
set_option maxRecDepth 100000 in
theorem k_bestPlace (l : Launch) (G : gG) (σ : gSt) (τ : Nat → Int64) (a0 : Int32) (mi : Nat) (hmi : σ 16 0 = nI mi) (hmi2 : mi ≤ 240) (k a g : Nat) (hk : a0 = nI k) (hk5 : k < 5) (hat : σ 17 k = nI a) (ha6 : a < 6) (hgo : σ 18 k = nI g) (hg : g ≤ 1000) (P : Nat) (hP : σ 10 0 = nI P) (hP6 : P ≤ 6) (wk : Nat) (hwk : σ 10 3 = nI wk) (hwk9 : wk ≤ 9) : gI l yX8_bestPlace cX8_bestPlace 7 (some .int) 3 70 G [.ref (gAd G 77), .ref (gAd G 9), .int a0] σ τ (if 0 < g ∨ 240 ≤ mi then nI a else kTo (fun t => sTolls σ wk mi a t) (kArr (σ 79) (σ 80) mi g a) (nI a) P 0) σ τ := by
  refine gMet_of (by decide) (Nat.le_of_ble_eq_true rfl) ?_
  intro p e s m args below meth c C hr hlk ls hl hW
  have hx := C.1
  have hb := C.2.1
  have hl : lv_has ls 7 [(0, .ref (gAd G 77)), (1, .ref (gAd G 9)), (2, .int a0)] := hl
  refine lv_aload_n hx hb dX8_bestPlace_0 rfl (lv_at hl 1 rfl) ?_
  refine gf_X8_21 C hW (by decide) rfl dX8_bestPlace_1 ?_
  refine gf_X8_27 (v := nI mi) C hW (by decide) rfl hmi dX8_bestPlace_4 ?_
  refine lv_istore_n (lv' := [(3, .int (nI mi)), (0, .ref (gAd G 77)), (1, .ref (gAd G 9)), (2, .int a0)]) hx hb dX8_bestPlace_7 rfl hl (by decide) rfl (fun ls hl => ?_)
  refine lv_aload_n hx hb dX8_bestPlace_8 rfl (lv_at hl 2 rfl) ?_
  refine gf_X8_21 C hW (by decide) rfl dX8_bestPlace_9 ?_
  refine gf_X8_69 C hW (by decide) rfl dX8_bestPlace_12 ?_
  refine lv_iload_n hx hb dX8_bestPlace_15 rfl (lv_at hl 3 rfl) ?_
  refine g_ald (v := nI a) k C hW (by decide) rfl hk (show k < 5 by omega) (by decide) hat dX8_bestPlace_16 ?_
  refine lv_istore (lv' := [(4, .int (nI a)), (3, .int (nI mi)), (0, .ref (gAd G 77)), (1, .ref (gAd G 9)), (2, .int a0)]) hx hb dX8_bestPlace_17 hl (by decide) rfl (fun ls hl => ?_)
  refine lv_aload_n hx hb dX8_bestPlace_19 rfl (lv_at hl 3 rfl) ?_
  refine gf_X8_21 C hW (by decide) rfl dX8_bestPlace_20 ?_
  refine gf_X8_66 C hW (by decide) rfl dX8_bestPlace_23 ?_
  refine lv_iload_n hx hb dX8_bestPlace_26 rfl (lv_at hl 4 rfl) ?_
  refine g_ald (v := nI g) k C hW (by decide) rfl hk (show k < 5 by omega) (by decide) hgo dX8_bestPlace_27 ?_
  refine lv_if_gt (tgt := 38) hx hb dX8_bestPlace_28 (by decide) (fun c_1 => ?_) (fun c_1 => ?_)
  · skip
    replace c_1 : 0 < g := (nI_ltI (a := 0) (b := g) (by omega) (by omega)).mp c_1
    refine lv_iload hx hb dX8_bestPlace_38 (lv_at hl 0 rfl) ?_
    exact g_iret C hr hlk hW dX8_bestPlace_40 (by rw [if_pos (by omega)]) (rfl) (rfl)
  · skip
    replace c_1 : g ≤ 0 := Nat.not_lt.mp (mt (nI_ltI (a := 0) (b := g) (by omega) (by omega)).mpr c_1)
    refine lv_iload_n hx hb dX8_bestPlace_31 rfl (lv_at hl 1 rfl) ?_
    refine lv_sipush (v := 240) hx hb dX8_bestPlace_32 (by decide) ?_
    refine lv_icmp_lt (tgt := 41) hx hb dX8_bestPlace_35 (by decide) (fun c_2 => ?_) (fun c_2 => ?_)
    · skip
      replace c_2 : mi < 240 := (nI_ltI (a := mi) (b := 240) (by omega) (by omega)).mp c_2
      refine lv_aload_n hx hb dX8_bestPlace_41 rfl (lv_at hl 2 rfl) ?_
      refine lv_aload_n hx hb dX8_bestPlace_42 rfl (lv_at hl 3 rfl) ?_
      refine gf_X8_21 C hW (by decide) rfl dX8_bestPlace_43 ?_
      refine lv_iload_n hx hb dX8_bestPlace_46 rfl (lv_at hl 4 rfl) ?_
      refine g_callvI (r := kArr (σ 79) (σ 80) mi g a) (σ' := σ) (rest := []) (As := [.ref (gAd G 16), .int a0]) C hW kv_X8_72 77 (by decide) (gL_8 rfl) rfl (k_fewestTolls l G σ τ a0 mi hmi hmi2 k a g hk hk5 hat ha6 hgo hg) ⟨Nat.le_of_ble_eq_true rfl, Nat.le_of_ble_eq_true rfl⟩ ⟨Nat.le_refl _, Nat.le_refl _⟩ rfl hl.1 rfl (Nat.le_of_ble_eq_true rfl) dX8_bestPlace_47 (fun H locs hW => ?_)
      refine lv_istore (lv' := [(5, .int (kArr (σ 79) (σ 80) mi g a)), (4, .int (nI a)), (3, .int (nI mi)), (0, .ref (gAd G 77)), (1, .ref (gAd G 9)), (2, .int a0)]) hx hb dX8_bestPlace_50 hl (by decide) rfl (fun ls hl => ?_)
      refine lv_iconst (v := 0) hx hb dX8_bestPlace_52 (by decide) ?_
      refine lv_istore (lv' := [(6, .int 0), (5, .int (kArr (σ 79) (σ 80) mi g a)), (4, .int (nI a)), (3, .int (nI mi)), (0, .ref (gAd G 77)), (1, .ref (gAd G 9)), (2, .int a0)]) hx hb dX8_bestPlace_53 hl (by decide) rfl (fun ls hl => ?_)
      have L55 : ∀ (n : Nat) (t_ : Nat) (H : Heap) (locs : List Loc) (ls : Array Slot), n + t_ = P → (kTo (fun t => sTolls σ wk mi a t) (kArr (σ 79) (σ 80) mi g a) (nI a) n t_ = kTo (fun t => sTolls σ wk mi a t) (kArr (σ 79) (σ 80) mi g a) (nI a) P 0) → gW G s σ τ H locs → lv_has ls 7 [(6, .int (nI t_)), (5, .int (kArr (σ 79) (σ 80) mi g a)), (4, .int (nI a)), (3, .int (nI mi)), (0, .ref (gAd G 77)), (1, .ref (gAd G 9)), (2, .int a0)] → W p l e (gRm 3 70) s m args below meth c H locs 0 0 (MQ below (gQi G (if 0 < g ∨ 240 ≤ mi then nI a else kTo (fun t => sTolls σ wk mi a t) (kArr (σ 79) (σ 80) mi g a) (nI a) P 0) σ τ) args s 0 0 (gA G)) (F0 m 55 ls []) := by
        intro n
        induction n with
        | zero =>
          intro t_ H locs ls hm hq hW hl
          refine lv_iload hx hb dX8_bestPlace_55 (lv_at hl 0 rfl) ?_
          refine lv_aload_n hx hb dX8_bestPlace_57 rfl (lv_at hl 5 rfl) ?_
          refine gf_X8_37 C hW (by decide) rfl dX8_bestPlace_58 ?_
          refine gf_X8_41 (v := nI P) C hW (by decide) rfl hP dX8_bestPlace_61 ?_
          refine lv_icmp_ge (tgt := 94) hx hb dX8_bestPlace_64 (by decide) (fun _ => ?_) (fun zz => absurd (show nI P ≤ nI t_ from nI_le (by omega) (by omega)) zz)
          refine lv_iload hx hb dX8_bestPlace_94 (lv_at hl 2 rfl) ?_
          exact g_iret C hr hlk hW dX8_bestPlace_96 (by rw [if_neg (by omega), ← hq]; rfl) (rfl) (rfl)
        | succ n ih55 =>
          intro t_ H locs ls hm hq hW hl
          refine lv_iload hx hb dX8_bestPlace_55 (lv_at hl 0 rfl) ?_
          refine lv_aload_n hx hb dX8_bestPlace_57 rfl (lv_at hl 5 rfl) ?_
          refine gf_X8_37 C hW (by decide) rfl dX8_bestPlace_58 ?_
          refine gf_X8_41 (v := nI P) C hW (by decide) rfl hP dX8_bestPlace_61 ?_
          refine lv_icmp_ge (tgt := 94) hx hb dX8_bestPlace_64 (by decide) (fun zz => absurd zz (show ¬ nI P ≤ nI t_ from nI_ge (by omega) (by omega))) (fun _ => ?_)
          refine lv_aload_n hx hb dX8_bestPlace_67 rfl (lv_at hl 4 rfl) ?_
          refine lv_aload_n hx hb dX8_bestPlace_68 rfl (lv_at hl 5 rfl) ?_
          refine gf_X8_37 C hW (by decide) rfl dX8_bestPlace_69 ?_
          refine lv_iload_n hx hb dX8_bestPlace_72 rfl (lv_at hl 3 rfl) ?_
          refine lv_iload hx hb dX8_bestPlace_73 (lv_at hl 2 rfl) ?_
          refine lv_iload hx hb dX8_bestPlace_75 (lv_at hl 0 rfl) ?_
          refine g_callvI (r := sTolls σ wk mi a t_) (σ' := σ) (rest := []) (As := [.ref (gAd G 10), .int (nI mi), .int (nI a), .int (nI t_)]) C hW kv_X8_50 77 (by decide) (gL_8 rfl) rfl (k_tolls l G σ τ (nI mi) (nI a) (nI t_) mi a t_ rfl rfl rfl (by omega) (by omega) (by omega) wk hwk hwk9) ⟨Nat.le_of_ble_eq_true rfl, Nat.le_of_ble_eq_true rfl⟩ ⟨Nat.le_refl _, Nat.le_refl _⟩ rfl hl.1 rfl (Nat.le_of_ble_eq_true rfl) dX8_bestPlace_77 (fun H locs hW => ?_)
          refine lv_iload hx hb dX8_bestPlace_80 (lv_at hl 1 rfl) ?_
          refine lv_icmp_ne (tgt := 88) hx hb dX8_bestPlace_82 (by decide) (fun c_3 => ?_) (fun c_3 => ?_)
          · skip
            refine lv_iinc (v := nI (t_ + 1)) (lv' := [(6, .int (nI (t_ + 1))), (5, .int (kArr (σ 79) (σ 80) mi g a)), (4, .int (nI a)), (3, .int (nI mi)), (0, .ref (gAd G 77)), (1, .ref (gAd G 9)), (2, .int a0)]) hx hb dX8_bestPlace_88 hl (k := 0) rfl (nI_1 _) (by decide) rfl (fun ls hl => ?_)
            refine lv_goto (tgt := 55) hx hb dX8_bestPlace_91 (by decide) ?_
            exact ih55 (t_ + 1) _ _ _ (by omega) (by rw [← hq, kTo, if_neg c_3]) hW (lv_sub hl [0, 1, 2, 3, 4, 5, 6] rfl)
          · skip
            refine lv_iload hx hb dX8_bestPlace_85 (lv_at hl 0 rfl) ?_
            exact g_iret C hr hlk hW dX8_bestPlace_87 (by rw [if_neg (by omega), ← hq, kTo, if_pos c_3]) (rfl) (rfl)
      exact L55 P 0 _ _ _ (by omega) rfl hW (lv_sub hl [0, 1, 2, 3, 4, 5, 6] rfl)
    · skip
      replace c_2 : 240 ≤ mi := Nat.not_lt.mp (mt (nI_ltI (a := mi) (b := 240) (by omega) (by omega)).mpr c_2)
      refine lv_iload hx hb dX8_bestPlace_38 (lv_at hl 0 rfl) ?_
      exact g_iret C hr hlk hW dX8_bestPlace_40 (by rw [if_pos (by omega)]) (rfl) (rfl)
