/-! ===== the class: its calls ===== -/
theorem kIs_nat {x : Int32} {N : Nat} (h : kIs x (nI N) = true) (hN : N < 2 ^ 31) : x = nI x.toNatClampNeg ∧ x.toNatClampNeg < N := by
  simp only [kIs, Bool.and_eq_true, Bool.not_eq_true', decide_eq_false_iff_not] at h
  obtain ⟨h1, h2⟩ := h
  obtain ⟨j, hj, rfl⟩ := nI_of h1
  rw [nI_clamp hj]
  refine ⟨rfl, ?_⟩
  rcases Nat.lt_or_ge j N with q | q
  · exact q
  · exact absurd (nI_le q hj) h2
theorem kRem_ne {σ : gSt} {j u c : Nat} (h : c < 21) : kRem σ j u c = σ c := by
  rw [kRem, gu_ne (by omega), gu_ne (by omega), kTake_ne (by omega)]
def kTown (σ : gSt) (t : Nat) : gSt := gfill 95 (gu (gu (kBegin (kPlan (gu (kRead σ t).1 1 1 0))) 21 1 0) 73 0 0) 2
theorem kMin_ne {σ : gSt} {D N c : Nat} (h : c ≠ 16) (h1 : c ≠ 18) (h2 : c ≠ 19) : kMin σ D N c = σ c := by rw [kMin, gu_ne h, kMinP_ne h1 h2]
def kPassS (σ : gSt) (D N : Nat) : Nat → gSt
  | 0 => σ
  | k + 1 => kMin (kPassS σ D N k) D N
theorem kPassS_ne {σ : gSt} {D N c : Nat} (h : c ≠ 16) (h1 : c ≠ 18) (h2 : c ≠ 19) : ∀ k, kPassS σ D N k c = σ c
  | 0 => rfl
  | k + 1 => by rw [kPassS, kMin_ne h h1 h2, kPassS_ne h h1 h2 k]
def kPassR (σ : gSt) (D N : Nat) : Nat → Int32
  | 0 => 0
  | k + 1 => kPassR σ D N k + kBC (sRung (kPassS σ D N k) (kPassS σ D N k 16 0) D)
theorem kRes_21 {σ : gSt} {j u : Nat} (h : ¬ u = 0) : kRes σ j u 21 1 = nI (u - 1) := by
  rw [kRes, if_neg h, kTake_ne (by omega), gu_at, if_pos ⟨rfl, rfl⟩]
theorem kPow_nat {b : Nat} : ∀ c, kPow (nI b) c = nI (b ^ c)
  | 0 => rfl
  | c + 1 => by rw [kPow, kPow_nat c, pk_mul, Nat.pow_succ]
theorem kMiss_le {fm lt pl ow : Nat → Int32} {fr ex p mi hm : Int32} : ∀ d, kMiss fm lt pl ow fr ex p mi hm d ≤ d
  | 0 => Nat.le_refl 0
  | d + 1 => by
    rw [kMiss]
    have := kMiss_le (fm := fm) (lt := lt) (pl := pl) (ow := ow) (fr := fr) (ex := ex) (p := p) (mi := mi) (hm := hm) d
    split <;> omega
theorem p240 {x : Int32} (h1 : ¬ x < 1) (h2 : x ≤ 240) : x = nI x.toNatClampNeg ∧ x.toNatClampNeg ≤ 240 := by
  have h := in240 (x := x) (by simp [mIn, h1, h2])
  exact ⟨h.1, h.2.1⟩
theorem i10 {x : Int32} (h1 : ¬ x < 0) (h2 : ¬ 10 < x) : x = nI x.toNatClampNeg ∧ x.toNatClampNeg ≤ 10 := by
  have h := mIn_nat (x := x) (N := 11) (show mIn x 0 10 = true by simp [mIn, h1]; exact Int32.not_lt.mp h2) (by decide)
  exact ⟨h.1, by omega⟩
set_option maxHeartbeats 4000000 in
set_option maxRecDepth 100000 in
theorem k_type (l : Launch) (G : gG) (σ : gSt) (τ : Nat → Int64) (a0 : Int32) (t : Nat) (ht : σ 1 1 = nI t) (ht2 : t ≤ 200) : gI l yX9_type cX9_type 2 (some .int) 1 21 G [.ref (gAd G 0), .int a0] σ τ (if (¬ a0 < 0 ∧ a0 ≤ 255) then (if t < 200 then nI (t + 1) else -3) else -1) (if (¬ a0 < 0 ∧ a0 ≤ 255) then (if t < 200 then gu (gu σ 2 t a0) 1 1 (nI (t + 1)) else σ) else σ) τ := by
  refine gMet_of (by decide) (Nat.le_of_ble_eq_true rfl) ?_
  intro p e s m args below meth c C hr hlk ls hl hW
  have hx := C.1
  have hb := C.2.1
  have hl : lv_has ls 2 [(0, .ref (gAd G 0)), (1, .int a0)] := hl
  refine lv_iload_n hx hb dX9_type_0 rfl (lv_at hl 1 rfl) ?_
  refine lv_if_lt (tgt := 11) hx hb dX9_type_1 (by decide) (fun c_1 => ?_) (fun c_1 => ?_)
  · skip
    refine lv_iconst (v := (-1)) hx hb dX9_type_11 (by decide) ?_
    exact g_iret C hr hlk hW dX9_type_12 (by simp [c_1]) (by simp [c_1]) (rfl)
  · skip
    refine lv_iload_n hx hb dX9_type_4 rfl (lv_at hl 1 rfl) ?_
    refine lv_sipush (v := 255) hx hb dX9_type_5 (by decide) ?_
    refine lv_icmp_le (tgt := 13) hx hb dX9_type_8 (by decide) (fun c_2 => ?_) (fun c_2 => ?_)
    · skip
      refine lv_aload_n hx hb dX9_type_13 rfl (lv_at hl 0 rfl) ?_
      refine gf_X9_10 C hW (by decide) rfl dX9_type_14 ?_
      refine lv_iload_n hx hb dX9_type_17 rfl (lv_at hl 1 rfl) ?_
      refine g_callvI (r := bI (decide (t < 200))) (σ' := if t < 200 then gu (gu σ 2 t a0) 1 1 (nI (t + 1)) else σ) (rest := []) (As := [.int a0]) C hW kv_X9_69 1 (by decide) (gL_6 rfl) rfl (k_addLetter l G σ τ a0 t ht ht2) ⟨Nat.le_of_ble_eq_true rfl, Nat.le_of_ble_eq_true rfl⟩ ⟨Nat.le_refl _, Nat.le_refl _⟩ rfl hl.1 rfl (Nat.le_of_ble_eq_true rfl) dX9_type_18 (fun H locs hW => ?_)
      refine lv_if_eq (tgt := 34) hx hb dX9_type_21 (by decide) (fun c_3 => ?_) (fun c_3 => ?_)
      · skip
        replace c_3 : (decide (t < 200)) = false := bI_eq0.mp c_3
        refine lv_bipush (v := (-3)) hx hb dX9_type_34 (by decide) ?_
        exact g_iret C hr hlk hW dX9_type_36 (by rw [if_pos ⟨c_1, c_2⟩, if_neg (of_decide_eq_false c_3)]) (by rw [if_pos (c := (¬ a0 < 0 ∧ a0 ≤ 255)) ⟨c_1, c_2⟩]) (rfl)
      · skip
        replace c_3 : (decide (t < 200)) = true := bI_ne0.mp c_3
        refine lv_aload_n hx hb dX9_type_24 rfl (lv_at hl 0 rfl) ?_
        refine gf_X9_10 C hW (by decide) rfl dX9_type_25 ?_
        refine gf_X9_73 (v := nI (t + 1)) C hW (by decide) rfl (by rw [if_pos (of_decide_eq_true c_3)]; rfl) dX9_type_28 ?_
        refine lv_goto (tgt := 36) hx hb dX9_type_31 (by decide) ?_
        exact g_iret C hr hlk hW dX9_type_36 (by rw [if_pos ⟨c_1, c_2⟩, if_pos (of_decide_eq_true c_3)]) (by rw [if_pos (c := (¬ a0 < 0 ∧ a0 ≤ 255)) ⟨c_1, c_2⟩]) (rfl)
    · skip
      refine lv_iconst (v := (-1)) hx hb dX9_type_11 (by decide) ?_
      exact g_iret C hr hlk hW dX9_type_12 (by simp [c_1, c_2]) (by simp [c_1, c_2]) (rfl)
set_option maxHeartbeats 4000000 in
set_option maxRecDepth 100000 in
theorem k_clear (l : Launch) (G : gG) (σ : gSt) (τ : Nat → Int64) : gI l yX9_clear cX9_clear 1 (some .int) 1 21 G [.ref (gAd G 0)] σ τ (σ 1 1) (gu σ 1 1 0) τ := by
  refine gMet_of (by decide) (Nat.le_of_ble_eq_true rfl) ?_
  intro p e s m args below meth c C hr hlk ls hl hW
  have hx := C.1
  have hb := C.2.1
  have hl : lv_has ls 1 [(0, .ref (gAd G 0))] := hl
  refine lv_aload_n hx hb dX9_clear_0 rfl (lv_at hl 0 rfl) ?_
  refine gf_X9_10 C hW (by decide) rfl dX9_clear_1 ?_
  refine g_callvI (r := σ 1 1) (σ' := gu σ 1 1 0) (rest := []) (As := []) C hW kv_X9_77 1 (by decide) (gL_6 rfl) rfl (k_dropLetters l G σ τ) ⟨Nat.le_of_ble_eq_true rfl, Nat.le_of_ble_eq_true rfl⟩ ⟨Nat.le_refl _, Nat.le_refl _⟩ rfl hl.1 rfl (Nat.le_of_ble_eq_true rfl) dX9_clear_4 (fun H locs hW => ?_)
  exact g_iret C hr hlk hW dX9_clear_7 (by simp [bI]) (rfl) (rfl)
set_option maxHeartbeats 4000000 in
set_option maxRecDepth 100000 in
theorem k_town (l : Launch) (G : gG) (σ : gSt) (τ : Nat → Int64) (t : Nat) (ht : σ 1 1 = nI t) (ht2 : t ≤ 200) : gI l yX9_town cX9_town 3 (some .int) 6 131 G [.ref (gAd G 0)] σ τ (if (kRead σ t).1 1 3 = -9 then nI (kRead σ t).2 else -10 - (kRead σ t).1 1 3) (if (kRead σ t).1 1 3 = -9 then kTown σ t else (kRead σ t).1) τ := by
  refine gMet_of (by decide) (Nat.le_of_ble_eq_true rfl) ?_
  intro p e s m args below meth c C hr hlk ls hl hW
  have hx := C.1
  have hb := C.2.1
  have hl : lv_has ls 3 [(0, .ref (gAd G 0))] := hl
  refine lv_aload_n hx hb dX9_town_0 rfl (lv_at hl 0 rfl) ?_
  refine gf_X9_10 C hW (by decide) rfl dX9_town_1 ?_
  refine g_callvI (r := nI ((kRead σ t).2)) (σ' := (kRead σ t).1) (rest := []) (As := []) C hW kv_X9_81 1 (by decide) (gL_6 rfl) rfl (k_read l G σ τ t ht ht2) ⟨Nat.le_of_ble_eq_true rfl, Nat.le_of_ble_eq_true rfl⟩ ⟨Nat.le_refl _, Nat.le_refl _⟩ rfl hl.1 rfl (Nat.le_of_ble_eq_true rfl) dX9_town_4 (fun H locs hW => ?_)
  refine lv_istore_n (lv' := [(1, .int (nI ((kRead σ t).2))), (0, .ref (gAd G 0))]) hx hb dX9_town_7 rfl hl (by decide) rfl (fun ls hl => ?_)
  refine lv_aload_n hx hb dX9_town_8 rfl (lv_at hl 1 rfl) ?_
  refine gf_X9_10 C hW (by decide) rfl dX9_town_9 ?_
  refine g_callvI (r := bI (!decide (((kRead σ t).1) 1 3 = -9))) (σ' := (kRead σ t).1) (rest := []) (As := []) C hW kv_X9_84 1 (by decide) (gL_6 rfl) rfl (k_hasFault l G ((kRead σ t).1) τ) ⟨Nat.le_of_ble_eq_true rfl, Nat.le_of_ble_eq_true rfl⟩ ⟨Nat.le_refl _, Nat.le_refl _⟩ rfl hl.1 rfl (Nat.le_of_ble_eq_true rfl) dX9_town_12 (fun H locs hW => ?_)
  refine lv_if_eq (tgt := 29) hx hb dX9_town_15 (by decide) (fun c_1 => ?_) (fun c_1 => ?_)
  · skip
    replace c_1 : (!decide (((kRead σ t).1) 1 3 = -9)) = false := bI_eq0.mp c_1
    refine lv_aload_n hx hb dX9_town_29 rfl (lv_at hl 1 rfl) ?_
    refine gf_X9_10 C hW (by decide) rfl dX9_town_30 ?_
    refine g_callvI (r := ((kRead σ t).1) 1 1) (σ' := gu ((kRead σ t).1) 1 1 0) (rest := []) (As := []) C hW kv_X9_77 1 (by decide) (gL_6 rfl) rfl (k_dropLetters l G ((kRead σ t).1) τ) ⟨Nat.le_of_ble_eq_true rfl, Nat.le_of_ble_eq_true rfl⟩ ⟨Nat.le_refl _, Nat.le_refl _⟩ rfl hl.1 rfl (Nat.le_of_ble_eq_true rfl) dX9_town_33 (fun H locs hW => ?_)
    refine lv_pop hx hb dX9_town_36 rfl ?_
    refine lv_aload_n hx hb dX9_town_37 rfl (lv_at hl 1 rfl) ?_
    refine gf_X9_19 C hW (by decide) rfl dX9_town_38 ?_
    refine lv_aload_n hx hb dX9_town_41 rfl (lv_at hl 1 rfl) ?_
    refine gf_X9_10 C hW (by decide) rfl dX9_town_42 ?_
    refine gf_X9_91 C hW (by decide) rfl dX9_town_45 ?_
    refine g_callvV (σ' := kBegin (kPlan (gu ((kRead σ t).1) 1 1 0))) (rest := []) (As := [.ref (gAd G 3)]) C hW kv_X9_95 9 (by decide) (gL_0 rfl) rfl (k_dbegin l G (gu ((kRead σ t).1) 1 1 0) τ) ⟨Nat.le_of_ble_eq_true rfl, Nat.le_of_ble_eq_true rfl⟩ ⟨Nat.le_refl _, Nat.le_refl _⟩ rfl hl.1 rfl (Nat.le_of_ble_eq_true rfl) dX9_town_48 (fun H locs hW => ?_)
    refine lv_aload_n hx hb dX9_town_51 rfl (lv_at hl 1 rfl) ?_
    refine gf_X9_26 C hW (by decide) rfl dX9_town_52 ?_
    refine g_callvV (σ' := gu (kBegin (kPlan (gu ((kRead σ t).1) 1 1 0))) 21 1 0) (rest := []) (As := []) C hW kv_X9_99 21 (by decide) (gL_2 rfl) rfl (k_lose l G (kBegin (kPlan (gu ((kRead σ t).1) 1 1 0))) τ) ⟨Nat.le_of_ble_eq_true rfl, Nat.le_of_ble_eq_true rfl⟩ ⟨Nat.le_refl _, Nat.le_refl _⟩ rfl hl.1 rfl (Nat.le_of_ble_eq_true rfl) dX9_town_55 (fun H locs hW => ?_)
    refine lv_aload_n hx hb dX9_town_58 rfl (lv_at hl 1 rfl) ?_
    refine gf_X9_33 C hW (by decide) rfl dX9_town_59 ?_
    refine g_callvI (r := (kBegin (kPlan (gu ((kRead σ t).1) 1 1 0))) 73 0) (σ' := gu (gu (kBegin (kPlan (gu ((kRead σ t).1) 1 1 0))) 21 1 0) 73 0 0) (rest := []) (As := []) C hW kv_X9_102 73 (by decide) (gL_1 rfl) rfl (k_drop l G (gu (kBegin (kPlan (gu ((kRead σ t).1) 1 1 0))) 21 1 0) τ) ⟨Nat.le_of_ble_eq_true rfl, Nat.le_of_ble_eq_true rfl⟩ ⟨Nat.le_refl _, Nat.le_refl _⟩ rfl hl.1 rfl (Nat.le_of_ble_eq_true rfl) dX9_town_62 (fun H locs hW => ?_)
    refine lv_pop hx hb dX9_town_65 rfl ?_
    refine lv_iconst (v := 0) hx hb dX9_town_66 (by decide) ?_
    refine lv_istore_n (lv' := [(2, .int 0), (1, .int (nI ((kRead σ t).2))), (0, .ref (gAd G 0))]) hx hb dX9_town_67 rfl hl (by decide) rfl (fun ls hl => ?_)
    have L68 : ∀ (n : Nat) (k : Nat) (H : Heap) (locs : List Loc) (ls : Array Slot), n + k = 2 → gW G s (gfill 95 (gu (gu (kBegin (kPlan (gu (kRead σ t).1 1 1 0))) 21 1 0) 73 0 0) k) τ H locs → lv_has ls 3 [(2, .int (nI k)), (1, .int (nI ((kRead σ t).2))), (0, .ref (gAd G 0))] → W p l e (gRm 6 131) s m args below meth c H locs 0 0 (MQ below (gQi G (if (kRead σ t).1 1 3 = -9 then nI (kRead σ t).2 else -10 - (kRead σ t).1 1 3) (if (kRead σ t).1 1 3 = -9 then kTown σ t else (kRead σ t).1) τ) args s 0 0 (gA G)) (F0 m 68 ls []) := by
      intro n
      induction n with
      | zero =>
        intro k H locs ls hm hW hl
        refine lv_iload_n hx hb dX9_town_68 rfl (lv_at hl 0 rfl) ?_
        refine lv_iconst (v := 2) hx hb dX9_town_69 (by decide) ?_
        refine lv_icmp_ge (tgt := 86) hx hb dX9_town_70 (by decide) (fun _ => ?_) (fun zz => absurd (show nI 2 ≤ nI k from nI_le (by omega) (by omega)) zz)
        have hk : k = 2 := by omega
        subst hk
        refine lv_iload_n hx hb dX9_town_86 rfl (lv_at hl 1 rfl) ?_
        exact g_iret C hr hlk hW dX9_town_87 (by rw [if_pos (by simpa using c_1)]) (by rw [if_pos (by simpa using c_1), kTown]) (rfl)
      | succ n ih68 =>
        intro k H locs ls hm hW hl
        refine lv_iload_n hx hb dX9_town_68 rfl (lv_at hl 0 rfl) ?_
        refine lv_iconst (v := 2) hx hb dX9_town_69 (by decide) ?_
        refine lv_icmp_ge (tgt := 86) hx hb dX9_town_70 (by decide) (fun zz => absurd zz (show ¬ nI 2 ≤ nI k from nI_ge (by omega) (by omega))) (fun _ => ?_)
        refine lv_aload_n hx hb dX9_town_73 rfl (lv_at hl 2 rfl) ?_
        refine gf_X9_65 C hW (by decide) rfl dX9_town_74 ?_
        refine lv_iload_n hx hb dX9_town_77 rfl (lv_at hl 0 rfl) ?_
        refine lv_iconst (v := 0) hx hb dX9_town_78 (by decide) ?_
        refine g_zast k C hW (by decide) rfl rfl (show k < 2 by omega) (by decide) rfl dX9_town_79 (fun H locs hW => ?_)
        refine lv_iinc (v := nI (k + 1)) (lv' := [(2, .int (nI (k + 1))), (1, .int (nI ((kRead σ t).2))), (0, .ref (gAd G 0))]) hx hb dX9_town_80 hl (k := 0) rfl (nI_1 _) (by decide) rfl (fun ls hl => ?_)
        refine lv_goto (tgt := 68) hx hb dX9_town_83 (by decide) ?_
        exact ih68 (k + 1) _ _ _ (by omega)  (by rw [gfill]; exact hW) (lv_sub hl [0, 1, 2] rfl)
    exact L68 2 0 _ _ _ (by omega)  hW (lv_sub hl [0, 1, 2] rfl)
  · skip
    replace c_1 : (!decide (((kRead σ t).1) 1 3 = -9)) = true := bI_ne0.mp c_1
    refine lv_bipush (v := (-10)) hx hb dX9_town_18 (by decide) ?_
    refine lv_aload_n hx hb dX9_town_20 rfl (lv_at hl 1 rfl) ?_
    refine gf_X9_10 C hW (by decide) rfl dX9_town_21 ?_
    refine gf_X9_88 (v := ((kRead σ t).1) 1 3) C hW (by decide) rfl rfl dX9_town_24 ?_
    refine lv_isub hx hb dX9_town_27 ?_
    exact g_iret C hr hlk hW dX9_town_28 (by rw [if_neg (by simpa using c_1)]) (by rw [if_neg (by simpa using c_1)]) (rfl)
set_option maxHeartbeats 4000000 in
set_option maxRecDepth 100000 in
theorem k_person (l : Launch) (G : gG) (σ : gSt) (τ : Nat → Int64) (a0 a1 : Int32) (D : Nat) (hD : σ 10 2 = nI D) (hD8 : D ≤ 8) (N : Nat) (hN : σ 10 1 = nI N) (hN5 : N ≤ 5) (how : ∀ d, d < D → σ 20 d = nI (σ 20 d).toNatClampNeg ∧ (σ 20 d).toNatClampNeg < 5) : gI l yX9_person cX9_person 4 (some .int) 4 87 G [.ref (gAd G 0), .int a0, .int a1] σ τ (if kIs a0 (σ 10 1) = true then (if a1 = 0 then (if σ 18 a0.toNatClampNeg ≤ 0 then σ 17 a0.toNatClampNeg else -9) else if a1 = 1 then σ 17 a0.toNatClampNeg else if a1 = 2 then σ 18 a0.toNatClampNeg else if a1 = 3 then σ 19 a0.toNatClampNeg else if a1 = 4 then kBit (sRung σ (σ 16 0) D) a0 else if a1 = 5 then σ 11 a0.toNatClampNeg else -1) else -1) σ τ := by
  refine gMet_of (by decide) (Nat.le_of_ble_eq_true rfl) ?_
  intro p e s m args below meth c C hr hlk ls hl hW
  have hx := C.1
  have hb := C.2.1
  have hl : lv_has ls 4 [(0, .ref (gAd G 0)), (1, .int a0), (2, .int a1)] := hl
  refine lv_aload_n hx hb dX9_person_0 rfl (lv_at hl 0 rfl) ?_
  refine gf_X9_19 C hW (by decide) rfl dX9_person_1 ?_
  refine gf_X9_105 C hW (by decide) rfl dX9_person_4 ?_
  refine lv_iload_n hx hb dX9_person_7 rfl (lv_at hl 1 rfl) ?_
  refine g_callvI (r := bI (kIs a0 (σ 10 1))) (σ' := σ) (rest := []) (As := [.int a0]) C hW kv_X9_108 10 (by decide) (gL_4 rfl) rfl (k_isPerson l G σ τ a0) ⟨Nat.le_of_ble_eq_true rfl, Nat.le_of_ble_eq_true rfl⟩ ⟨Nat.le_refl _, Nat.le_refl _⟩ rfl hl.1 rfl (Nat.le_of_ble_eq_true rfl) dX9_person_8 (fun H locs hW => ?_)
  refine lv_if_ne (tgt := 16) hx hb dX9_person_11 (by decide) (fun c_1 => ?_) (fun c_1 => ?_)
  · skip
    replace c_1 : (kIs a0 (σ 10 1)) = true := bI_ne0.mp c_1
    have hp0 := c_1
    rw [hN] at hp0
    have hp := kIs_nat hp0 (by omega)
    refine lv_aload_n hx hb dX9_person_16 rfl (lv_at hl 0 rfl) ?_
    refine gf_X9_19 C hW (by decide) rfl dX9_person_17 ?_
    refine gf_X9_113 C hW (by decide) rfl dX9_person_20 ?_
    refine lv_astore_n (lv' := [(3, .ref (gAd G 16)), (0, .ref (gAd G 0)), (1, .int a0), (2, .int a1)]) hx hb dX9_person_23 rfl hl (by decide) rfl (fun ls hl => ?_)
    refine lv_iload_n hx hb dX9_person_24 rfl (lv_at hl 3 rfl) ?_
    by_cases c_2 : a1 = 0
    · skip
      refine lv_tableIn (tgt := 64) (off := 39) hx hb dX9_person_25 (by rw [c_2]; decide) (by rw [c_2]; decide) (by rw [c_2]; rfl) (by decide) ?_
      refine lv_aload_n hx hb dX9_person_64 rfl (lv_at hl 0 rfl) ?_
      refine gf_X9_117 C hW (by decide) rfl dX9_person_65 ?_
      refine lv_iload_n hx hb dX9_person_68 rfl (lv_at hl 2 rfl) ?_
      refine g_ald (v := σ 18 a0.toNatClampNeg) a0.toNatClampNeg C hW (by decide) rfl hp.1 (show a0.toNatClampNeg < 5 by omega) (by decide) rfl dX9_person_69 ?_
      refine lv_if_le (tgt := 78) hx hb dX9_person_70 (by decide) (fun c_3 => ?_) (fun c_3 => ?_)
      · skip
        refine lv_aload_n hx hb dX9_person_78 rfl (lv_at hl 0 rfl) ?_
        refine gf_X9_121 C hW (by decide) rfl dX9_person_79 ?_
        refine lv_iload_n hx hb dX9_person_82 rfl (lv_at hl 2 rfl) ?_
        refine g_ald (v := σ 17 a0.toNatClampNeg) a0.toNatClampNeg C hW (by decide) rfl hp.1 (show a0.toNatClampNeg < 5 by omega) (by decide) rfl dX9_person_83 ?_
        exact g_iret C hr hlk hW dX9_person_84 (by rw [if_pos c_1, if_pos c_2, if_pos c_3]) (rfl) (rfl)
      · skip
        refine lv_bipush (v := (-9)) hx hb dX9_person_73 (by decide) ?_
        refine lv_goto (tgt := 84) hx hb dX9_person_75 (by decide) ?_
        exact g_iret C hr hlk hW dX9_person_84 (by rw [if_pos c_1, if_pos c_2, if_neg c_3]) (rfl) (rfl)
    by_cases c_4 : a1 = 1
    · skip
      refine lv_tableIn (tgt := 85) (off := 60) hx hb dX9_person_25 (by rw [c_4]; decide) (by rw [c_4]; decide) (by rw [c_4]; rfl) (by decide) ?_
      refine lv_aload_n hx hb dX9_person_85 rfl (lv_at hl 0 rfl) ?_
      refine gf_X9_121 C hW (by decide) rfl dX9_person_86 ?_
      refine lv_iload_n hx hb dX9_person_89 rfl (lv_at hl 2 rfl) ?_
      refine g_ald (v := σ 17 a0.toNatClampNeg) a0.toNatClampNeg C hW (by decide) rfl hp.1 (show a0.toNatClampNeg < 5 by omega) (by decide) rfl dX9_person_90 ?_
      exact g_iret C hr hlk hW dX9_person_91 (by rw [if_pos c_1, if_neg c_2, if_pos c_4]) (rfl) (rfl)
    by_cases c_5 : a1 = 2
    · skip
      refine lv_tableIn (tgt := 92) (off := 67) hx hb dX9_person_25 (by rw [c_5]; decide) (by rw [c_5]; decide) (by rw [c_5]; rfl) (by decide) ?_
      refine lv_aload_n hx hb dX9_person_92 rfl (lv_at hl 0 rfl) ?_
      refine gf_X9_117 C hW (by decide) rfl dX9_person_93 ?_
      refine lv_iload_n hx hb dX9_person_96 rfl (lv_at hl 2 rfl) ?_
      refine g_ald (v := σ 18 a0.toNatClampNeg) a0.toNatClampNeg C hW (by decide) rfl hp.1 (show a0.toNatClampNeg < 5 by omega) (by decide) rfl dX9_person_97 ?_
      exact g_iret C hr hlk hW dX9_person_98 (by rw [if_pos c_1, if_neg c_2, if_neg c_4, if_pos c_5]) (rfl) (rfl)
    by_cases c_6 : a1 = 3
    · skip
      refine lv_tableIn (tgt := 99) (off := 74) hx hb dX9_person_25 (by rw [c_6]; decide) (by rw [c_6]; decide) (by rw [c_6]; rfl) (by decide) ?_
      refine lv_aload_n hx hb dX9_person_99 rfl (lv_at hl 0 rfl) ?_
      refine gf_X9_124 C hW (by decide) rfl dX9_person_100 ?_
      refine lv_iload_n hx hb dX9_person_103 rfl (lv_at hl 2 rfl) ?_
      refine g_ald (v := σ 19 a0.toNatClampNeg) a0.toNatClampNeg C hW (by decide) rfl hp.1 (show a0.toNatClampNeg < 5 by omega) (by decide) rfl dX9_person_104 ?_
      exact g_iret C hr hlk hW dX9_person_105 (by rw [if_pos c_1, if_neg c_2, if_neg c_4, if_neg c_5, if_pos c_6]) (rfl) (rfl)
    by_cases c_7 : a1 = 4
    · skip
      refine lv_tableIn (tgt := 106) (off := 81) hx hb dX9_person_25 (by rw [c_7]; decide) (by rw [c_7]; decide) (by rw [c_7]; rfl) (by decide) ?_
      refine lv_aload_n hx hb dX9_person_106 rfl (lv_at hl 1 rfl) ?_
      refine gf_X9_19 C hW (by decide) rfl dX9_person_107 ?_
      refine lv_aload_n hx hb dX9_person_110 rfl (lv_at hl 0 rfl) ?_
      refine gf_X9_127 (v := σ 16 0) C hW (by decide) rfl rfl dX9_person_111 ?_
      refine g_callvI (r := sRung σ (σ 16 0) D) (σ' := σ) (rest := []) (As := [.int (σ 16 0)]) C hW kv_X9_130 9 (by decide) (gL_0 rfl) rfl (k_rung l G σ τ (σ 16 0) D hD hD8 how) ⟨Nat.le_of_ble_eq_true rfl, Nat.le_of_ble_eq_true rfl⟩ ⟨Nat.le_refl _, Nat.le_refl _⟩ rfl hl.1 rfl (Nat.le_of_ble_eq_true rfl) dX9_person_114 (fun H locs hW => ?_)
      refine lv_iload_n hx hb dX9_person_117 rfl (lv_at hl 2 rfl) ?_
      refine g_callsI (r := kBit (sRung σ (σ 16 0) D) a0) (σ' := σ) (rest := []) (As := [.int (sRung σ (σ 16 0) D), .int a0]) C hW ks_X9_134 (k_bit l G σ τ (sRung σ (σ 16 0) D) a0) ⟨Nat.le_of_ble_eq_true rfl, Nat.le_of_ble_eq_true rfl⟩ ⟨Nat.le_refl _, Nat.le_refl _⟩ rfl hl.1 rfl (Nat.le_of_ble_eq_true rfl) dX9_person_118 (fun H locs hW => ?_)
      exact g_iret C hr hlk hW dX9_person_121 (by rw [if_pos c_1, if_neg c_2, if_neg c_4, if_neg c_5, if_neg c_6, if_pos c_7]) (rfl) (rfl)
    by_cases c_8 : a1 = 5
    · skip
      refine lv_tableIn (tgt := 122) (off := 97) hx hb dX9_person_25 (by rw [c_8]; decide) (by rw [c_8]; decide) (by rw [c_8]; rfl) (by decide) ?_
      refine lv_aload_n hx hb dX9_person_122 rfl (lv_at hl 1 rfl) ?_
      refine gf_X9_19 C hW (by decide) rfl dX9_person_123 ?_
      refine gf_X9_105 C hW (by decide) rfl dX9_person_126 ?_
      refine gf_X9_138 C hW (by decide) rfl dX9_person_129 ?_
      refine lv_iload_n hx hb dX9_person_132 rfl (lv_at hl 2 rfl) ?_
      refine g_ald (v := σ 11 a0.toNatClampNeg) a0.toNatClampNeg C hW (by decide) rfl hp.1 (show a0.toNatClampNeg < 5 by omega) (by decide) rfl dX9_person_133 ?_
      exact g_iret C hr hlk hW dX9_person_134 (by rw [if_pos c_1, if_neg c_2, if_neg c_4, if_neg c_5, if_neg c_6, if_neg c_7, if_pos c_8]) (rfl) (rfl)
    refine lv_tableOut (tgt := 135) hx hb dX9_person_25 (by have t_c_2 := lv_neT c_2 (a := 0) (by decide); have t_c_4 := lv_neT c_4 (a := 1) (by decide); have t_c_5 := lv_neT c_5 (a := 2) (by decide); have t_c_6 := lv_neT c_6 (a := 3) (by decide); have t_c_7 := lv_neT c_7 (a := 4) (by decide); have t_c_8 := lv_neT c_8 (a := 5) (by decide); omega) (by decide) ?_
    refine lv_iconst (v := (-1)) hx hb dX9_person_135 (by decide) ?_
    exact g_iret C hr hlk hW dX9_person_136 (by rw [if_pos c_1, if_neg c_2, if_neg c_4, if_neg c_5, if_neg c_6, if_neg c_7, if_neg c_8]) (rfl) (rfl)
  · skip
    replace c_1 : (kIs a0 (σ 10 1)) = false := bI_eq0.mp c_1
    refine lv_iconst (v := (-1)) hx hb dX9_person_14 (by decide) ?_
    exact g_iret C hr hlk hW dX9_person_15 (by rw [if_neg (bneg c_1)]) (rfl) (rfl)
set_option maxHeartbeats 4000000 in
set_option maxRecDepth 100000 in
theorem k_duty (l : Launch) (G : gG) (σ : gSt) (τ : Nat → Int64) (a0 a1 : Int32) (D : Nat) (hD : σ 10 2 = nI D) (hD8 : D ≤ 8) : gI l yX9_duty cX9_duty 3 (some .int) 1 21 G [.ref (gAd G 0), .int a0, .int a1] σ τ (if kIs a0 (σ 10 2) = true then (if a1 = 0 then σ 20 a0.toNatClampNeg else if a1 = 1 then σ 13 a0.toNatClampNeg else if a1 = 2 then σ 14 a0.toNatClampNeg else if a1 = 3 then σ 15 a0.toNatClampNeg else if a1 = 4 then kBit (σ 16 1) a0 else -1) else -1) σ τ := by
  refine gMet_of (by decide) (Nat.le_of_ble_eq_true rfl) ?_
  intro p e s m args below meth c C hr hlk ls hl hW
  have hx := C.1
  have hb := C.2.1
  have hl : lv_has ls 3 [(0, .ref (gAd G 0)), (1, .int a0), (2, .int a1)] := hl
  refine lv_aload_n hx hb dX9_duty_0 rfl (lv_at hl 0 rfl) ?_
  refine gf_X9_19 C hW (by decide) rfl dX9_duty_1 ?_
  refine gf_X9_105 C hW (by decide) rfl dX9_duty_4 ?_
  refine lv_iload_n hx hb dX9_duty_7 rfl (lv_at hl 1 rfl) ?_
  refine g_callvI (r := bI (kIs a0 (σ 10 2))) (σ' := σ) (rest := []) (As := [.int a0]) C hW kv_X9_141 10 (by decide) (gL_4 rfl) rfl (k_isDuty l G σ τ a0) ⟨Nat.le_of_ble_eq_true rfl, Nat.le_of_ble_eq_true rfl⟩ ⟨Nat.le_refl _, Nat.le_refl _⟩ rfl hl.1 rfl (Nat.le_of_ble_eq_true rfl) dX9_duty_8 (fun H locs hW => ?_)
  refine lv_if_ne (tgt := 16) hx hb dX9_duty_11 (by decide) (fun c_1 => ?_) (fun c_1 => ?_)
  · skip
    replace c_1 : (kIs a0 (σ 10 2)) = true := bI_ne0.mp c_1
    have hp0 := c_1
    rw [hD] at hp0
    have hp := kIs_nat hp0 (by omega)
    refine lv_iload_n hx hb dX9_duty_16 rfl (lv_at hl 2 rfl) ?_
    by_cases c_2 : a1 = 0
    · skip
      refine lv_tableIn (tgt := 52) (off := 35) hx hb dX9_duty_17 (by rw [c_2]; decide) (by rw [c_2]; decide) (by rw [c_2]; rfl) (by decide) ?_
      refine lv_aload_n hx hb dX9_duty_52 rfl (lv_at hl 0 rfl) ?_
      refine gf_X9_19 C hW (by decide) rfl dX9_duty_53 ?_
      refine gf_X9_113 C hW (by decide) rfl dX9_duty_56 ?_
      refine gf_X9_144 C hW (by decide) rfl dX9_duty_59 ?_
      refine lv_iload_n hx hb dX9_duty_62 rfl (lv_at hl 1 rfl) ?_
      refine g_ald (v := σ 20 a0.toNatClampNeg) a0.toNatClampNeg C hW (by decide) rfl hp.1 (show a0.toNatClampNeg < 8 by omega) (by decide) rfl dX9_duty_63 ?_
      exact g_iret C hr hlk hW dX9_duty_64 (by rw [if_pos c_1, if_pos c_2]) (rfl) (rfl)
    by_cases c_3 : a1 = 1
    · skip
      refine lv_tableIn (tgt := 65) (off := 48) hx hb dX9_duty_17 (by rw [c_3]; decide) (by rw [c_3]; decide) (by rw [c_3]; rfl) (by decide) ?_
      refine lv_aload_n hx hb dX9_duty_65 rfl (lv_at hl 0 rfl) ?_
      refine gf_X9_19 C hW (by decide) rfl dX9_duty_66 ?_
      refine gf_X9_105 C hW (by decide) rfl dX9_duty_69 ?_
      refine gf_X9_147 C hW (by decide) rfl dX9_duty_72 ?_
      refine lv_iload_n hx hb dX9_duty_75 rfl (lv_at hl 1 rfl) ?_
      refine g_ald (v := σ 13 a0.toNatClampNeg) a0.toNatClampNeg C hW (by decide) rfl hp.1 (show a0.toNatClampNeg < 8 by omega) (by decide) rfl dX9_duty_76 ?_
      exact g_iret C hr hlk hW dX9_duty_77 (by rw [if_pos c_1, if_neg c_2, if_pos c_3]) (rfl) (rfl)
    by_cases c_4 : a1 = 2
    · skip
      refine lv_tableIn (tgt := 78) (off := 61) hx hb dX9_duty_17 (by rw [c_4]; decide) (by rw [c_4]; decide) (by rw [c_4]; rfl) (by decide) ?_
      refine lv_aload_n hx hb dX9_duty_78 rfl (lv_at hl 0 rfl) ?_
      refine gf_X9_19 C hW (by decide) rfl dX9_duty_79 ?_
      refine gf_X9_105 C hW (by decide) rfl dX9_duty_82 ?_
      refine gf_X9_148 C hW (by decide) rfl dX9_duty_85 ?_
      refine lv_iload_n hx hb dX9_duty_88 rfl (lv_at hl 1 rfl) ?_
      refine g_ald (v := σ 14 a0.toNatClampNeg) a0.toNatClampNeg C hW (by decide) rfl hp.1 (show a0.toNatClampNeg < 8 by omega) (by decide) rfl dX9_duty_89 ?_
      exact g_iret C hr hlk hW dX9_duty_90 (by rw [if_pos c_1, if_neg c_2, if_neg c_3, if_pos c_4]) (rfl) (rfl)
    by_cases c_5 : a1 = 3
    · skip
      refine lv_tableIn (tgt := 91) (off := 74) hx hb dX9_duty_17 (by rw [c_5]; decide) (by rw [c_5]; decide) (by rw [c_5]; rfl) (by decide) ?_
      refine lv_aload_n hx hb dX9_duty_91 rfl (lv_at hl 0 rfl) ?_
      refine gf_X9_19 C hW (by decide) rfl dX9_duty_92 ?_
      refine gf_X9_105 C hW (by decide) rfl dX9_duty_95 ?_
      refine gf_X9_151 C hW (by decide) rfl dX9_duty_98 ?_
      refine lv_iload_n hx hb dX9_duty_101 rfl (lv_at hl 1 rfl) ?_
      refine g_ald (v := σ 15 a0.toNatClampNeg) a0.toNatClampNeg C hW (by decide) rfl hp.1 (show a0.toNatClampNeg < 8 by omega) (by decide) rfl dX9_duty_102 ?_
      exact g_iret C hr hlk hW dX9_duty_103 (by rw [if_pos c_1, if_neg c_2, if_neg c_3, if_neg c_4, if_pos c_5]) (rfl) (rfl)
    by_cases c_6 : a1 = 4
    · skip
      refine lv_tableIn (tgt := 104) (off := 87) hx hb dX9_duty_17 (by rw [c_6]; decide) (by rw [c_6]; decide) (by rw [c_6]; rfl) (by decide) ?_
      refine lv_aload_n hx hb dX9_duty_104 rfl (lv_at hl 0 rfl) ?_
      refine gf_X9_19 C hW (by decide) rfl dX9_duty_105 ?_
      refine gf_X9_113 C hW (by decide) rfl dX9_duty_108 ?_
      refine gf_X9_154 (v := σ 16 1) C hW (by decide) rfl rfl dX9_duty_111 ?_
      refine lv_iload_n hx hb dX9_duty_114 rfl (lv_at hl 1 rfl) ?_
      refine g_callsI (r := kBit (σ 16 1) a0) (σ' := σ) (rest := []) (As := [.int (σ 16 1), .int a0]) C hW ks_X9_134 (k_bit l G σ τ (σ 16 1) a0) ⟨Nat.le_of_ble_eq_true rfl, Nat.le_of_ble_eq_true rfl⟩ ⟨Nat.le_refl _, Nat.le_refl _⟩ rfl hl.1 rfl (Nat.le_of_ble_eq_true rfl) dX9_duty_115 (fun H locs hW => ?_)
      exact g_iret C hr hlk hW dX9_duty_118 (by rw [if_pos c_1, if_neg c_2, if_neg c_3, if_neg c_4, if_neg c_5, if_pos c_6]) (rfl) (rfl)
    refine lv_tableOut (tgt := 119) hx hb dX9_duty_17 (by have t_c_2 := lv_neT c_2 (a := 0) (by decide); have t_c_3 := lv_neT c_3 (a := 1) (by decide); have t_c_4 := lv_neT c_4 (a := 2) (by decide); have t_c_5 := lv_neT c_5 (a := 3) (by decide); have t_c_6 := lv_neT c_6 (a := 4) (by decide); omega) (by decide) ?_
    refine lv_iconst (v := (-1)) hx hb dX9_duty_119 (by decide) ?_
    exact g_iret C hr hlk hW dX9_duty_120 (by rw [if_pos c_1, if_neg c_2, if_neg c_3, if_neg c_4, if_neg c_5, if_neg c_6]) (rfl) (rfl)
  · skip
    replace c_1 : (kIs a0 (σ 10 2)) = false := bI_eq0.mp c_1
    refine lv_iconst (v := (-1)) hx hb dX9_duty_14 (by decide) ?_
    exact g_iret C hr hlk hW dX9_duty_15 (by rw [if_neg (bneg c_1)]) (rfl) (rfl)
set_option maxHeartbeats 4000000 in
set_option maxRecDepth 100000 in
theorem k_now (l : Launch) (G : gG) (σ : gSt) (τ : Nat → Int64) (a0 : Int32) (D : Nat) (hD : σ 10 2 = nI D) (hD8 : D ≤ 8) (N : Nat) (hN : σ 10 1 = nI N) (hN5 : N ≤ 5) (mi : Nat) (hmi : σ 16 0 = nI mi) (hmi2 : mi ≤ 240) (how : ∀ d, d < D → σ 20 d = nI (σ 20 d).toNatClampNeg ∧ (σ 20 d).toNatClampNeg < 5) : gI l yX9_now cX9_now 2 (some .int) 4 87 G [.ref (gAd G 0), .int a0] σ τ (if a0 = 0 then σ 16 0 else if a0 = 1 then σ 16 1 else if a0 = 2 then kSum (σ 19) N else if a0 = 3 then (kWorst (σ 19) N).2 else if a0 = 4 then rFirst (fun m => !decide (sDR σ (nI m) D = 0)) (240 - mi) mi else if a0 = 5 then σ 21 1 else -1) σ τ := by
  refine gMet_of (by decide) (Nat.le_of_ble_eq_true rfl) ?_
  intro p e s m args below meth c C hr hlk ls hl hW
  have hx := C.1
  have hb := C.2.1
  have hl : lv_has ls 2 [(0, .ref (gAd G 0)), (1, .int a0)] := hl
  refine lv_iload_n hx hb dX9_now_0 rfl (lv_at hl 1 rfl) ?_
  by_cases c_1 : a0 = 0
  · skip
    refine lv_tableIn (tgt := 40) (off := 39) hx hb dX9_now_1 (by rw [c_1]; decide) (by rw [c_1]; decide) (by rw [c_1]; rfl) (by decide) ?_
    refine lv_aload_n hx hb dX9_now_40 rfl (lv_at hl 0 rfl) ?_
    refine gf_X9_19 C hW (by decide) rfl dX9_now_41 ?_
    refine gf_X9_113 C hW (by decide) rfl dX9_now_44 ?_
    refine gf_X9_127 (v := σ 16 0) C hW (by decide) rfl rfl dX9_now_47 ?_
    exact g_iret C hr hlk hW dX9_now_50 (by rw [if_pos c_1]) (rfl) (rfl)
  by_cases c_2 : a0 = 1
  · skip
    refine lv_tableIn (tgt := 51) (off := 50) hx hb dX9_now_1 (by rw [c_2]; decide) (by rw [c_2]; decide) (by rw [c_2]; rfl) (by decide) ?_
    refine lv_aload_n hx hb dX9_now_51 rfl (lv_at hl 0 rfl) ?_
    refine gf_X9_19 C hW (by decide) rfl dX9_now_52 ?_
    refine gf_X9_113 C hW (by decide) rfl dX9_now_55 ?_
    refine gf_X9_154 (v := σ 16 1) C hW (by decide) rfl rfl dX9_now_58 ?_
    exact g_iret C hr hlk hW dX9_now_61 (by rw [if_neg c_1, if_pos c_2]) (rfl) (rfl)
  by_cases c_3 : a0 = 2
  · skip
    refine lv_tableIn (tgt := 62) (off := 61) hx hb dX9_now_1 (by rw [c_3]; decide) (by rw [c_3]; decide) (by rw [c_3]; rfl) (by decide) ?_
    refine lv_aload_n hx hb dX9_now_62 rfl (lv_at hl 0 rfl) ?_
    refine gf_X9_19 C hW (by decide) rfl dX9_now_63 ?_
    refine g_callvI (r := kSum (σ 19) N) (σ' := σ) (rest := []) (As := []) C hW kv_X9_157 9 (by decide) (gL_0 rfl) rfl (k_tolledInAll l G σ τ N hN hN5) ⟨Nat.le_of_ble_eq_true rfl, Nat.le_of_ble_eq_true rfl⟩ ⟨Nat.le_refl _, Nat.le_refl _⟩ rfl hl.1 rfl (Nat.le_of_ble_eq_true rfl) dX9_now_66 (fun H locs hW => ?_)
    exact g_iret C hr hlk hW dX9_now_69 (by rw [if_neg c_1, if_neg c_2, if_pos c_3]) (rfl) (rfl)
  by_cases c_4 : a0 = 3
  · skip
    refine lv_tableIn (tgt := 70) (off := 69) hx hb dX9_now_1 (by rw [c_4]; decide) (by rw [c_4]; decide) (by rw [c_4]; rfl) (by decide) ?_
    refine lv_aload_n hx hb dX9_now_70 rfl (lv_at hl 0 rfl) ?_
    refine gf_X9_19 C hW (by decide) rfl dX9_now_71 ?_
    refine g_callvI (r := (kWorst (σ 19) N).2) (σ' := σ) (rest := []) (As := []) C hW kv_X9_160 9 (by decide) (gL_0 rfl) rfl (k_worst l G σ τ N hN hN5) ⟨Nat.le_of_ble_eq_true rfl, Nat.le_of_ble_eq_true rfl⟩ ⟨Nat.le_refl _, Nat.le_refl _⟩ rfl hl.1 rfl (Nat.le_of_ble_eq_true rfl) dX9_now_74 (fun H locs hW => ?_)
    exact g_iret C hr hlk hW dX9_now_77 (by rw [if_neg c_1, if_neg c_2, if_neg c_3, if_pos c_4]) (rfl) (rfl)
  by_cases c_5 : a0 = 4
  · skip
    refine lv_tableIn (tgt := 78) (off := 77) hx hb dX9_now_1 (by rw [c_5]; decide) (by rw [c_5]; decide) (by rw [c_5]; rfl) (by decide) ?_
    refine lv_aload_n hx hb dX9_now_78 rfl (lv_at hl 0 rfl) ?_
    refine gf_X9_19 C hW (by decide) rfl dX9_now_79 ?_
    refine g_callvI (r := rFirst (fun m => !decide (sDR σ (nI m) D = 0)) (240 - mi) mi) (σ' := σ) (rest := []) (As := []) C hW kv_X9_163 9 (by decide) (gL_0 rfl) rfl (k_nextRung l G σ τ D hD hD8 mi hmi hmi2 how) ⟨Nat.le_of_ble_eq_true rfl, Nat.le_of_ble_eq_true rfl⟩ ⟨Nat.le_refl _, Nat.le_refl _⟩ rfl hl.1 rfl (Nat.le_of_ble_eq_true rfl) dX9_now_82 (fun H locs hW => ?_)
    exact g_iret C hr hlk hW dX9_now_85 (by rw [if_neg c_1, if_neg c_2, if_neg c_3, if_neg c_4, if_pos c_5]) (rfl) (rfl)
  by_cases c_6 : a0 = 5
  · skip
    refine lv_tableIn (tgt := 86) (off := 85) hx hb dX9_now_1 (by rw [c_6]; decide) (by rw [c_6]; decide) (by rw [c_6]; rfl) (by decide) ?_
    refine lv_aload_n hx hb dX9_now_86 rfl (lv_at hl 0 rfl) ?_
    refine gf_X9_26 C hW (by decide) rfl dX9_now_87 ?_
    refine gf_X9_166 (v := σ 21 1) C hW (by decide) rfl rfl dX9_now_90 ?_
    exact g_iret C hr hlk hW dX9_now_93 (by rw [if_neg c_1, if_neg c_2, if_neg c_3, if_neg c_4, if_neg c_5, if_pos c_6]) (rfl) (rfl)
  refine lv_tableOut (tgt := 94) hx hb dX9_now_1 (by have t_c_1 := lv_neT c_1 (a := 0) (by decide); have t_c_2 := lv_neT c_2 (a := 1) (by decide); have t_c_3 := lv_neT c_3 (a := 2) (by decide); have t_c_4 := lv_neT c_4 (a := 3) (by decide); have t_c_5 := lv_neT c_5 (a := 4) (by decide); have t_c_6 := lv_neT c_6 (a := 5) (by decide); omega) (by decide) ?_
  refine lv_iconst (v := (-1)) hx hb dX9_now_94 (by decide) ?_
  exact g_iret C hr hlk hW dX9_now_95 (by rw [if_neg c_1, if_neg c_2, if_neg c_3, if_neg c_4, if_neg c_5, if_neg c_6]) (rfl) (rfl)
set_option maxHeartbeats 4000000 in
set_option maxRecDepth 100000 in
theorem k_goes (l : Launch) (G : gG) (σ : gSt) (τ : Nat → Int64) (a0 a1 : Int32) (N : Nat) (hN : σ 10 1 = nI N) (hN5 : N ≤ 5) (j u : Nat) (hj : σ 21 2 = nI j) (hj2 : j < 10) (hu : σ 21 1 = nI u) (hu2 : u ≤ 10) : gI l yX9_goes cX9_goes 4 (some .int) 3 82 G [.ref (gAd G 0), .int a0, .int a1] σ τ (if (kIs a0 (σ 10 1) = true ∧ kIs a1 (σ 10 0) = true) then (if (0 < σ 18 a0.toNatClampNeg ∨ σ 17 a0.toNatClampNeg = a1) then -2 else kMB (σ 10 3) (σ 17 a0.toNatClampNeg) a1) else -1) (if (kIs a0 (σ 10 1) = true ∧ kIs a1 (σ 10 0) = true) then (if (0 < σ 18 a0.toNatClampNeg ∨ σ 17 a0.toNatClampNeg = a1) then σ else gu (gu (kRem σ j u) 18 a0.toNatClampNeg (kMB ((kRem σ j u) 10 3) ((kRem σ j u) 17 a0.toNatClampNeg) a1)) 17 a0.toNatClampNeg a1) else σ) τ := by
  refine gMet_of (by decide) (Nat.le_of_ble_eq_true rfl) ?_
  intro p e s m args below meth c C hr hlk ls hl hW
  have hx := C.1
  have hb := C.2.1
  have hl : lv_has ls 4 [(0, .ref (gAd G 0)), (1, .int a0), (2, .int a1)] := hl
  refine lv_aload_n hx hb dX9_goes_0 rfl (lv_at hl 0 rfl) ?_
  refine gf_X9_19 C hW (by decide) rfl dX9_goes_1 ?_
  refine gf_X9_105 C hW (by decide) rfl dX9_goes_4 ?_
  refine lv_iload_n hx hb dX9_goes_7 rfl (lv_at hl 1 rfl) ?_
  refine g_callvI (r := bI (kIs a0 (σ 10 1))) (σ' := σ) (rest := []) (As := [.int a0]) C hW kv_X9_108 10 (by decide) (gL_4 rfl) rfl (k_isPerson l G σ τ a0) ⟨Nat.le_of_ble_eq_true rfl, Nat.le_of_ble_eq_true rfl⟩ ⟨Nat.le_refl _, Nat.le_refl _⟩ rfl hl.1 rfl (Nat.le_of_ble_eq_true rfl) dX9_goes_8 (fun H locs hW => ?_)
  refine lv_if_eq (tgt := 28) hx hb dX9_goes_11 (by decide) (fun c_1 => ?_) (fun c_1 => ?_)
  · skip
    replace c_1 : (kIs a0 (σ 10 1)) = false := bI_eq0.mp c_1
    refine lv_iconst (v := (-1)) hx hb dX9_goes_28 (by decide) ?_
    exact g_iret C hr hlk hW dX9_goes_29 (by simp [c_1]) (by simp [c_1]) (rfl)
  · skip
    replace c_1 : (kIs a0 (σ 10 1)) = true := bI_ne0.mp c_1
    refine lv_aload_n hx hb dX9_goes_14 rfl (lv_at hl 0 rfl) ?_
    refine gf_X9_19 C hW (by decide) rfl dX9_goes_15 ?_
    refine gf_X9_105 C hW (by decide) rfl dX9_goes_18 ?_
    refine lv_iload_n hx hb dX9_goes_21 rfl (lv_at hl 2 rfl) ?_
    refine g_callvI (r := bI (kIs a1 (σ 10 0))) (σ' := σ) (rest := []) (As := [.int a1]) C hW kv_X9_169 10 (by decide) (gL_4 rfl) rfl (k_isPlace l G σ τ a1) ⟨Nat.le_of_ble_eq_true rfl, Nat.le_of_ble_eq_true rfl⟩ ⟨Nat.le_refl _, Nat.le_refl _⟩ rfl hl.1 rfl (Nat.le_of_ble_eq_true rfl) dX9_goes_22 (fun H locs hW => ?_)
    refine lv_if_ne (tgt := 30) hx hb dX9_goes_25 (by decide) (fun c_2 => ?_) (fun c_2 => ?_)
    · skip
      replace c_2 : (kIs a1 (σ 10 0)) = true := bI_ne0.mp c_2
      have hp0 := c_1
      rw [hN] at hp0
      have hp := kIs_nat hp0 (by omega)
      refine lv_aload_n hx hb dX9_goes_30 rfl (lv_at hl 0 rfl) ?_
      refine gf_X9_19 C hW (by decide) rfl dX9_goes_31 ?_
      refine gf_X9_113 C hW (by decide) rfl dX9_goes_34 ?_
      refine lv_astore_n (lv' := [(3, .ref (gAd G 16)), (0, .ref (gAd G 0)), (1, .int a0), (2, .int a1)]) hx hb dX9_goes_37 rfl hl (by decide) rfl (fun ls hl => ?_)
      refine lv_aload_n hx hb dX9_goes_38 rfl (lv_at hl 0 rfl) ?_
      refine gf_X9_117 C hW (by decide) rfl dX9_goes_39 ?_
      refine lv_iload_n hx hb dX9_goes_42 rfl (lv_at hl 2 rfl) ?_
      refine g_ald (v := σ 18 a0.toNatClampNeg) a0.toNatClampNeg C hW (by decide) rfl hp.1 (show a0.toNatClampNeg < 5 by omega) (by decide) rfl dX9_goes_43 ?_
      refine lv_if_gt (tgt := 57) hx hb dX9_goes_44 (by decide) (fun c_3 => ?_) (fun c_3 => ?_)
      · skip
        refine lv_bipush (v := (-2)) hx hb dX9_goes_57 (by decide) ?_
        exact g_iret C hr hlk hW dX9_goes_59 (by simp [c_1, c_2, c_3]) (by simp [c_1, c_2, c_3]) (rfl)
      · skip
        refine lv_aload_n hx hb dX9_goes_47 rfl (lv_at hl 0 rfl) ?_
        refine gf_X9_121 C hW (by decide) rfl dX9_goes_48 ?_
        refine lv_iload_n hx hb dX9_goes_51 rfl (lv_at hl 2 rfl) ?_
        refine g_ald (v := σ 17 a0.toNatClampNeg) a0.toNatClampNeg C hW (by decide) rfl hp.1 (show a0.toNatClampNeg < 5 by omega) (by decide) rfl dX9_goes_52 ?_
        refine lv_iload_n hx hb dX9_goes_53 rfl (lv_at hl 3 rfl) ?_
        refine lv_icmp_ne (tgt := 60) hx hb dX9_goes_54 (by decide) (fun c_4 => ?_) (fun c_4 => ?_)
        · skip
          refine lv_aload_n hx hb dX9_goes_60 rfl (lv_at hl 1 rfl) ?_
          refine gf_X9_26 C hW (by decide) rfl dX9_goes_61 ?_
          refine lv_aload_n hx hb dX9_goes_64 rfl (lv_at hl 0 rfl) ?_
          refine g_callvV (σ' := kRem σ j u) (rest := []) (As := [.ref (gAd G 16)]) C hW kv_X9_172 21 (by decide) (gL_2 rfl) rfl (k_rem l G σ τ j u hj hj2 hu hu2) ⟨Nat.le_of_ble_eq_true rfl, Nat.le_of_ble_eq_true rfl⟩ ⟨Nat.le_refl _, Nat.le_refl _⟩ rfl hl.1 rfl (Nat.le_of_ble_eq_true rfl) dX9_goes_65 (fun H locs hW => ?_)
          refine lv_aload_n hx hb dX9_goes_68 rfl (lv_at hl 0 rfl) ?_
          refine gf_X9_117 C hW (by decide) rfl dX9_goes_69 ?_
          refine lv_iload_n hx hb dX9_goes_72 rfl (lv_at hl 2 rfl) ?_
          refine lv_aload_n hx hb dX9_goes_73 rfl (lv_at hl 1 rfl) ?_
          refine gf_X9_19 C hW (by decide) rfl dX9_goes_74 ?_
          refine gf_X9_105 C hW (by decide) rfl dX9_goes_77 ?_
          refine lv_aload_n hx hb dX9_goes_80 rfl (lv_at hl 0 rfl) ?_
          refine gf_X9_121 C hW (by decide) rfl dX9_goes_81 ?_
          refine lv_iload_n hx hb dX9_goes_84 rfl (lv_at hl 2 rfl) ?_
          refine g_ald (v := (kRem σ j u) 17 a0.toNatClampNeg) a0.toNatClampNeg C hW (by decide) rfl hp.1 (show a0.toNatClampNeg < 5 by omega) (by decide) rfl dX9_goes_85 ?_
          refine lv_iload_n hx hb dX9_goes_86 rfl (lv_at hl 3 rfl) ?_
          refine g_callvI (r := kMB ((kRem σ j u) 10 3) ((kRem σ j u) 17 a0.toNatClampNeg) a1) (σ' := kRem σ j u) (rest := [.int a0, .ref (gAd G 18)]) (As := [.int ((kRem σ j u) 17 a0.toNatClampNeg), .int a1]) C hW kv_X9_176 10 (by decide) (gL_4 rfl) rfl (k_mb l G (kRem σ j u) τ ((kRem σ j u) 17 a0.toNatClampNeg) a1) ⟨Nat.le_of_ble_eq_true rfl, Nat.le_of_ble_eq_true rfl⟩ ⟨Nat.le_refl _, Nat.le_refl _⟩ rfl hl.1 rfl (Nat.le_of_ble_eq_true rfl) dX9_goes_87 (fun H locs hW => ?_)
          refine g_ast a0.toNatClampNeg C hW (by decide) rfl hp.1 (show a0.toNatClampNeg < 5 by omega) (by decide) dX9_goes_90 (fun H locs hW => ?_)
          refine lv_aload_n hx hb dX9_goes_91 rfl (lv_at hl 0 rfl) ?_
          refine gf_X9_121 C hW (by decide) rfl dX9_goes_92 ?_
          refine lv_iload_n hx hb dX9_goes_95 rfl (lv_at hl 2 rfl) ?_
          refine lv_iload_n hx hb dX9_goes_96 rfl (lv_at hl 3 rfl) ?_
          refine g_ast a0.toNatClampNeg C hW (by decide) rfl hp.1 (show a0.toNatClampNeg < 5 by omega) (by decide) dX9_goes_97 (fun H locs hW => ?_)
          refine lv_aload_n hx hb dX9_goes_98 rfl (lv_at hl 0 rfl) ?_
          refine gf_X9_117 C hW (by decide) rfl dX9_goes_99 ?_
          refine lv_iload_n hx hb dX9_goes_102 rfl (lv_at hl 2 rfl) ?_
          refine g_ald (v := (gu (kRem σ j u) 18 a0.toNatClampNeg (kMB ((kRem σ j u) 10 3) ((kRem σ j u) 17 a0.toNatClampNeg) a1)) 18 a0.toNatClampNeg) a0.toNatClampNeg C hW (by decide) rfl hp.1 (show a0.toNatClampNeg < 5 by omega) (by decide) rfl dX9_goes_103 ?_
          exact g_iret C hr hlk hW dX9_goes_104 (by rw [if_pos ⟨c_1, c_2⟩, if_neg (by rintro (q | q); exact c_3 q; exact c_4 q), gu_at, if_pos ⟨rfl, rfl⟩, kRem_ne (by decide), kRem_ne (by decide)]) (by rw [if_pos ⟨c_1, c_2⟩, if_neg (by rintro (q | q); exact c_3 q; exact c_4 q)]) (rfl)
        · skip
          refine lv_bipush (v := (-2)) hx hb dX9_goes_57 (by decide) ?_
          exact g_iret C hr hlk hW dX9_goes_59 (by simp [c_1, c_2, c_3, c_4]) (by simp [c_1, c_2, c_3, c_4]) (rfl)
    · skip
      replace c_2 : (kIs a1 (σ 10 0)) = false := bI_eq0.mp c_2
      refine lv_iconst (v := (-1)) hx hb dX9_goes_28 (by decide) ?_
      exact g_iret C hr hlk hW dX9_goes_29 (by simp [c_1, c_2]) (by simp [c_1, c_2]) (rfl)
set_option maxHeartbeats 4000000 in
set_option maxRecDepth 100000 in
theorem k_passes (l : Launch) (G : gG) (σ : gSt) (τ : Nat → Int64) (a0 : Int32) (D : Nat) (hD : σ 10 2 = nI D) (hD8 : D ≤ 8) (N : Nat) (hN : σ 10 1 = nI N) (hN5 : N ≤ 5) (how : ∀ d, d < D → σ 20 d = nI (σ 20 d).toNatClampNeg ∧ (σ 20 d).toNatClampNeg < 5) (j u : Nat) (hj : σ 21 2 = nI j) (hj2 : j < 10) (hu : σ 21 1 = nI u) (hu2 : u ≤ 10) : gI l yX9_passes cX9_passes 4 (some .int) 5 109 G [.ref (gAd G 0), .int a0] σ τ (if (¬ a0 < 1 ∧ a0 ≤ 240) then (if (σ 16 0 + a0 ≤ 240) then kPassR (kRem σ j u) D N a0.toNatClampNeg else -2) else -1) (if (¬ a0 < 1 ∧ a0 ≤ 240) then (if (σ 16 0 + a0 ≤ 240) then kPassS (kRem σ j u) D N a0.toNatClampNeg else σ) else σ) τ := by
  refine gMet_of (by decide) (Nat.le_of_ble_eq_true rfl) ?_
  intro p e s m args below meth c C hr hlk ls hl hW
  have hx := C.1
  have hb := C.2.1
  have hl : lv_has ls 4 [(0, .ref (gAd G 0)), (1, .int a0)] := hl
  refine lv_iload_n hx hb dX9_passes_0 rfl (lv_at hl 1 rfl) ?_
  refine lv_iconst (v := 1) hx hb dX9_passes_1 (by decide) ?_
  refine lv_icmp_lt (tgt := 12) hx hb dX9_passes_2 (by decide) (fun c_1 => ?_) (fun c_1 => ?_)
  · skip
    refine lv_iconst (v := (-1)) hx hb dX9_passes_12 (by decide) ?_
    exact g_iret C hr hlk hW dX9_passes_13 (by simp [c_1]) (by simp [c_1]) (rfl)
  · skip
    refine lv_iload_n hx hb dX9_passes_5 rfl (lv_at hl 1 rfl) ?_
    refine lv_sipush (v := 240) hx hb dX9_passes_6 (by decide) ?_
    refine lv_icmp_le (tgt := 14) hx hb dX9_passes_9 (by decide) (fun c_2 => ?_) (fun c_2 => ?_)
    · skip
      refine lv_aload_n hx hb dX9_passes_14 rfl (lv_at hl 0 rfl) ?_
      refine gf_X9_19 C hW (by decide) rfl dX9_passes_15 ?_
      refine gf_X9_113 C hW (by decide) rfl dX9_passes_18 ?_
      refine gf_X9_127 (v := σ 16 0) C hW (by decide) rfl rfl dX9_passes_21 ?_
      refine lv_iload_n hx hb dX9_passes_24 rfl (lv_at hl 1 rfl) ?_
      refine lv_iadd hx hb dX9_passes_25 ?_
      refine lv_sipush (v := 240) hx hb dX9_passes_26 (by decide) ?_
      refine lv_icmp_le (tgt := 35) hx hb dX9_passes_29 (by decide) (fun c_3 => ?_) (fun c_3 => ?_)
      · skip
        have hp := p240 c_1 c_2
        refine lv_aload_n hx hb dX9_passes_35 rfl (lv_at hl 0 rfl) ?_
        refine gf_X9_26 C hW (by decide) rfl dX9_passes_36 ?_
        refine lv_aload_n hx hb dX9_passes_39 rfl (lv_at hl 0 rfl) ?_
        refine gf_X9_19 C hW (by decide) rfl dX9_passes_40 ?_
        refine gf_X9_113 C hW (by decide) rfl dX9_passes_43 ?_
        refine g_callvV (σ' := kRem σ j u) (rest := []) (As := [.ref (gAd G 16)]) C hW kv_X9_172 21 (by decide) (gL_2 rfl) rfl (k_rem l G σ τ j u hj hj2 hu hu2) ⟨Nat.le_of_ble_eq_true rfl, Nat.le_of_ble_eq_true rfl⟩ ⟨Nat.le_refl _, Nat.le_refl _⟩ rfl hl.1 rfl (Nat.le_of_ble_eq_true rfl) dX9_passes_46 (fun H locs hW => ?_)
        refine lv_iconst (v := 0) hx hb dX9_passes_49 (by decide) ?_
        refine lv_istore_n (lv' := [(2, .int 0), (0, .ref (gAd G 0)), (1, .int a0)]) hx hb dX9_passes_50 rfl hl (by decide) rfl (fun ls hl => ?_)
        refine lv_iconst (v := 0) hx hb dX9_passes_51 (by decide) ?_
        refine lv_istore_n (lv' := [(3, .int 0), (2, .int 0), (0, .ref (gAd G 0)), (1, .int a0)]) hx hb dX9_passes_52 rfl hl (by decide) rfl (fun ls hl => ?_)
        have L53 : ∀ (n : Nat) (k : Nat) (v : Int32) (H : Heap) (locs : List Loc) (ls : Array Slot), n + k = a0.toNatClampNeg → v = (kPassR (kRem σ j u) D N k) → gW G s (kPassS (kRem σ j u) D N k) τ H locs → lv_has ls 4 [(3, .int (nI k)), (2, .int v), (0, .ref (gAd G 0)), (1, .int a0)] → W p l e (gRm 5 109) s m args below meth c H locs 0 0 (MQ below (gQi G (if (¬ a0 < 1 ∧ a0 ≤ 240) then (if (σ 16 0 + a0 ≤ 240) then kPassR (kRem σ j u) D N a0.toNatClampNeg else -2) else -1) (if (¬ a0 < 1 ∧ a0 ≤ 240) then (if (σ 16 0 + a0 ≤ 240) then kPassS (kRem σ j u) D N a0.toNatClampNeg else σ) else σ) τ) args s 0 0 (gA G)) (F0 m 53 ls []) := by
          intro n
          induction n with
          | zero =>
            intro k v H locs ls hm hv hW hl
            refine lv_iload_n hx hb dX9_passes_53 rfl (lv_at hl 0 rfl) ?_
            refine lv_iload_n hx hb dX9_passes_54 rfl (lv_at hl 3 rfl) ?_
            refine lv_icmp_ge (tgt := 74) hx hb dX9_passes_55 (by decide) (fun _ => ?_) (fun zz => absurd (by rw [hp.1]; exact (show nI a0.toNatClampNeg ≤ nI k from nI_le (by omega) (by omega))) zz)
            refine lv_iload_n hx hb dX9_passes_74 rfl (lv_at hl 1 rfl) ?_
            exact g_iret C hr hlk hW dX9_passes_75 (by rw [if_pos ⟨c_1, c_2⟩, if_pos c_3, hv, show k = a0.toNatClampNeg by omega]) (by rw [if_pos ⟨c_1, c_2⟩, if_pos c_3, show k = a0.toNatClampNeg by omega]) (rfl)
          | succ n ih53 =>
            intro k v H locs ls hm hv hW hl
            refine lv_iload_n hx hb dX9_passes_53 rfl (lv_at hl 0 rfl) ?_
            refine lv_iload_n hx hb dX9_passes_54 rfl (lv_at hl 3 rfl) ?_
            refine lv_icmp_ge (tgt := 74) hx hb dX9_passes_55 (by decide) (fun zz => absurd zz (by rw [hp.1]; exact (show ¬ nI a0.toNatClampNeg ≤ nI k from nI_ge (by omega) (by omega)))) (fun _ => ?_)
            refine lv_iload_n hx hb dX9_passes_58 rfl (lv_at hl 1 rfl) ?_
            refine lv_aload_n hx hb dX9_passes_59 rfl (lv_at hl 2 rfl) ?_
            refine gf_X9_19 C hW (by decide) rfl dX9_passes_60 ?_
            refine g_callvI (r := kBC (sRung (kPassS (kRem σ j u) D N k) ((kPassS (kRem σ j u) D N k) 16 0) D)) (σ' := kMin (kPassS (kRem σ j u) D N k) D N) (rest := [.int v]) (As := []) C hW kv_X9_179 9 (by decide) (gL_0 rfl) rfl (k_passMinute l G (kPassS (kRem σ j u) D N k) τ D (by rw [kPassS_ne (by decide) (by decide) (by decide), kRem_ne (by decide)]; exact hD) hD8 N (by rw [kPassS_ne (by decide) (by decide) (by decide), kRem_ne (by decide)]; exact hN) hN5 (fun d hd => by rw [kPassS_ne (by decide) (by decide) (by decide), kRem_ne (by decide)]; exact how d hd)) ⟨Nat.le_of_ble_eq_true rfl, Nat.le_of_ble_eq_true rfl⟩ ⟨Nat.le_refl _, Nat.le_refl _⟩ rfl hl.1 rfl (Nat.le_of_ble_eq_true rfl) dX9_passes_63 (fun H locs hW => ?_)
            refine lv_iadd hx hb dX9_passes_66 ?_
            refine lv_istore_n (lv' := [(2, .int (v + (kBC (sRung (kPassS (kRem σ j u) D N k) ((kPassS (kRem σ j u) D N k) 16 0) D)))), (3, .int (nI k)), (0, .ref (gAd G 0)), (1, .int a0)]) hx hb dX9_passes_67 rfl hl (by decide) rfl (fun ls hl => ?_)
            refine lv_iinc (v := nI (k + 1)) (lv' := [(3, .int (nI (k + 1))), (2, .int (v + (kBC (sRung (kPassS (kRem σ j u) D N k) ((kPassS (kRem σ j u) D N k) 16 0) D)))), (0, .ref (gAd G 0)), (1, .int a0)]) hx hb dX9_passes_68 hl (k := 1) rfl (nI_1 _) (by decide) rfl (fun ls hl => ?_)
            refine lv_goto (tgt := 53) hx hb dX9_passes_71 (by decide) ?_
            exact ih53 (k + 1) (v + (kBC (sRung (kPassS (kRem σ j u) D N k) ((kPassS (kRem σ j u) D N k) 16 0) D))) _ _ _ (by omega) (by rw [kPassR, ← hv]) (by rw [kPassS]; exact hW) (lv_sub hl [0, 1, 2, 3] rfl)
        exact L53 a0.toNatClampNeg 0 0 _ _ _ (by omega) (by first | rfl | simp [bI, c_1, c_2, c_3]) hW (lv_sub hl [0, 1, 2, 3] rfl)
      · skip
        refine lv_bipush (v := (-2)) hx hb dX9_passes_32 (by decide) ?_
        exact g_iret C hr hlk hW dX9_passes_34 (by simp [c_1, c_2, c_3]) (by simp [c_1, c_2, c_3]) (rfl)
    · skip
      refine lv_iconst (v := (-1)) hx hb dX9_passes_12 (by decide) ?_
      exact g_iret C hr hlk hW dX9_passes_13 (by simp [c_1, c_2]) (by simp [c_1, c_2]) (rfl)
set_option maxHeartbeats 4000000 in
set_option maxRecDepth 100000 in
theorem k_excuses (l : Launch) (G : gG) (σ : gSt) (τ : Nat → Int64) (a0 a1 : Int32) (D : Nat) (hD : σ 10 2 = nI D) (hD8 : D ≤ 8) (j u : Nat) (hj : σ 21 2 = nI j) (hj2 : j < 10) (hu : σ 21 1 = nI u) (hu2 : u ≤ 10) : gI l yX9_excuses cX9_excuses 4 (some .int) 3 82 G [.ref (gAd G 0), .int a0, .int a1] σ τ (if (kIs a0 (σ 10 2) = true ∧ (decide (a1 = 0) || decide (a1 = 1)) = true) then (if (kBit (σ 16 1) a0 = a1) then -2 else kBC ((kRem σ j u) 16 1 ^^^ ((1 : Int32) <<< (a0 &&& 31)))) else -1) (if (kIs a0 (σ 10 2) = true ∧ (decide (a1 = 0) || decide (a1 = 1)) = true) then (if (kBit (σ 16 1) a0 = a1) then σ else gu (kRem σ j u) 16 1 ((kRem σ j u) 16 1 ^^^ ((1 : Int32) <<< (a0 &&& 31)))) else σ) τ := by
  refine gMet_of (by decide) (Nat.le_of_ble_eq_true rfl) ?_
  intro p e s m args below meth c C hr hlk ls hl hW
  have hx := C.1
  have hb := C.2.1
  have hl : lv_has ls 4 [(0, .ref (gAd G 0)), (1, .int a0), (2, .int a1)] := hl
  refine lv_aload_n hx hb dX9_excuses_0 rfl (lv_at hl 0 rfl) ?_
  refine gf_X9_19 C hW (by decide) rfl dX9_excuses_1 ?_
  refine gf_X9_105 C hW (by decide) rfl dX9_excuses_4 ?_
  refine lv_iload_n hx hb dX9_excuses_7 rfl (lv_at hl 1 rfl) ?_
  refine g_callvI (r := bI (kIs a0 (σ 10 2))) (σ' := σ) (rest := []) (As := [.int a0]) C hW kv_X9_141 10 (by decide) (gL_4 rfl) rfl (k_isDuty l G σ τ a0) ⟨Nat.le_of_ble_eq_true rfl, Nat.le_of_ble_eq_true rfl⟩ ⟨Nat.le_refl _, Nat.le_refl _⟩ rfl hl.1 rfl (Nat.le_of_ble_eq_true rfl) dX9_excuses_8 (fun H locs hW => ?_)
  refine lv_if_eq (tgt := 21) hx hb dX9_excuses_11 (by decide) (fun c_1 => ?_) (fun c_1 => ?_)
  · skip
    replace c_1 : (kIs a0 (σ 10 2)) = false := bI_eq0.mp c_1
    refine lv_iconst (v := (-1)) hx hb dX9_excuses_21 (by decide) ?_
    exact g_iret C hr hlk hW dX9_excuses_22 (by rw [if_neg (by simp [c_1])]) (by rw [if_neg (by simp [c_1])]) (rfl)
  · skip
    replace c_1 : (kIs a0 (σ 10 2)) = true := bI_ne0.mp c_1
    refine lv_iload_n hx hb dX9_excuses_14 rfl (lv_at hl 2 rfl) ?_
    refine g_callsI (r := bI (decide (a1 = 0) || decide (a1 = 1))) (σ' := σ) (rest := []) (As := [.int a1]) C hW ks_X9_182 (k_isBit l G σ τ a1) ⟨Nat.le_of_ble_eq_true rfl, Nat.le_of_ble_eq_true rfl⟩ ⟨Nat.le_refl _, Nat.le_refl _⟩ rfl hl.1 rfl (Nat.le_of_ble_eq_true rfl) dX9_excuses_15 (fun H locs hW => ?_)
    refine lv_if_ne (tgt := 23) hx hb dX9_excuses_18 (by decide) (fun c_2 => ?_) (fun c_2 => ?_)
    · skip
      replace c_2 : (decide (a1 = 0) || decide (a1 = 1)) = true := bI_ne0.mp c_2
      refine lv_aload_n hx hb dX9_excuses_23 rfl (lv_at hl 0 rfl) ?_
      refine gf_X9_19 C hW (by decide) rfl dX9_excuses_24 ?_
      refine gf_X9_113 C hW (by decide) rfl dX9_excuses_27 ?_
      refine lv_astore_n (lv' := [(3, .ref (gAd G 16)), (0, .ref (gAd G 0)), (1, .int a0), (2, .int a1)]) hx hb dX9_excuses_30 rfl hl (by decide) rfl (fun ls hl => ?_)
      refine lv_aload_n hx hb dX9_excuses_31 rfl (lv_at hl 0 rfl) ?_
      refine gf_X9_154 (v := σ 16 1) C hW (by decide) rfl rfl dX9_excuses_32 ?_
      refine lv_iload_n hx hb dX9_excuses_35 rfl (lv_at hl 2 rfl) ?_
      refine g_callsI (r := kBit (σ 16 1) a0) (σ' := σ) (rest := []) (As := [.int (σ 16 1), .int a0]) C hW ks_X9_134 (k_bit l G σ τ (σ 16 1) a0) ⟨Nat.le_of_ble_eq_true rfl, Nat.le_of_ble_eq_true rfl⟩ ⟨Nat.le_refl _, Nat.le_refl _⟩ rfl hl.1 rfl (Nat.le_of_ble_eq_true rfl) dX9_excuses_36 (fun H locs hW => ?_)
      refine lv_iload_n hx hb dX9_excuses_39 rfl (lv_at hl 3 rfl) ?_
      refine lv_icmp_ne (tgt := 46) hx hb dX9_excuses_40 (by decide) (fun c_3 => ?_) (fun c_3 => ?_)
      · skip
        refine lv_aload_n hx hb dX9_excuses_46 rfl (lv_at hl 1 rfl) ?_
        refine gf_X9_26 C hW (by decide) rfl dX9_excuses_47 ?_
        refine lv_aload_n hx hb dX9_excuses_50 rfl (lv_at hl 0 rfl) ?_
        refine g_callvV (σ' := kRem σ j u) (rest := []) (As := [.ref (gAd G 16)]) C hW kv_X9_172 21 (by decide) (gL_2 rfl) rfl (k_rem l G σ τ j u hj hj2 hu hu2) ⟨Nat.le_of_ble_eq_true rfl, Nat.le_of_ble_eq_true rfl⟩ ⟨Nat.le_refl _, Nat.le_refl _⟩ rfl hl.1 rfl (Nat.le_of_ble_eq_true rfl) dX9_excuses_51 (fun H locs hW => ?_)
        refine lv_aload_n hx hb dX9_excuses_54 rfl (lv_at hl 0 rfl) ?_
        refine lv_dup hx hb dX9_excuses_55 rfl ?_
        refine gf_X9_154 (v := (kRem σ j u) 16 1) C hW (by decide) rfl rfl dX9_excuses_56 ?_
        refine lv_iconst (v := 1) hx hb dX9_excuses_59 (by decide) ?_
        refine lv_iload_n hx hb dX9_excuses_60 rfl (lv_at hl 2 rfl) ?_
        refine lv_ishl hx hb dX9_excuses_61 ?_
        refine lv_ixor hx hb dX9_excuses_62 ?_
        refine lv_topi (fun ex_ hex_ => ?_)
        refine gp_X9_154 C hW (by decide) rfl dX9_excuses_63 (fun H locs hW => ?_)
        refine lv_aload_n hx hb dX9_excuses_66 rfl (lv_at hl 0 rfl) ?_
        refine gf_X9_154 (v := ex_) C hW (by decide) rfl rfl dX9_excuses_67 ?_
        refine g_callsI (r := kBC ex_) (σ' := gu (kRem σ j u) 16 1 ex_) (rest := []) (As := [.int ex_]) C hW ks_X9_185 (k_bitCount l G (gu (kRem σ j u) 16 1 ex_) τ ex_) ⟨Nat.le_of_ble_eq_true rfl, Nat.le_of_ble_eq_true rfl⟩ ⟨Nat.le_refl _, Nat.le_refl _⟩ rfl hl.1 rfl (Nat.le_of_ble_eq_true rfl) dX9_excuses_70 (fun H locs hW => ?_)
        exact g_iret C hr hlk hW dX9_excuses_73 (by rw [if_pos ⟨c_1, c_2⟩, if_neg c_3, hex_]) (by rw [if_pos ⟨c_1, c_2⟩, if_neg c_3, hex_]) (rfl)
      · skip
        refine lv_bipush (v := (-2)) hx hb dX9_excuses_43 (by decide) ?_
        exact g_iret C hr hlk hW dX9_excuses_45 (by rw [if_pos ⟨c_1, c_2⟩, if_pos c_3]) (by rw [if_pos ⟨c_1, c_2⟩, if_pos c_3]) (rfl)
    · skip
      replace c_2 : (decide (a1 = 0) || decide (a1 = 1)) = false := bI_eq0.mp c_2
      refine lv_iconst (v := (-1)) hx hb dX9_excuses_21 (by decide) ?_
      exact g_iret C hr hlk hW dX9_excuses_22 (by rw [if_neg (by simp [c_1, c_2])]) (by rw [if_neg (by simp [c_1, c_2])]) (rfl)
set_option maxHeartbeats 4000000 in
set_option maxRecDepth 100000 in
theorem k_swaps (l : Launch) (G : gG) (σ : gSt) (τ : Nat → Int64) (a0 a1 : Int32) (D : Nat) (hD : σ 10 2 = nI D) (hD8 : D ≤ 8) (j u : Nat) (hj : σ 21 2 = nI j) (hj2 : j < 10) (hu : σ 21 1 = nI u) (hu2 : u ≤ 10) : gI l yX9_swaps cX9_swaps 5 (some .int) 3 82 G [.ref (gAd G 0), .int a0, .int a1] σ τ (if (kIs a0 (σ 10 2) = true ∧ kIs a1 (σ 10 2) = true) then (if (σ 20 a0.toNatClampNeg = σ 20 a1.toNatClampNeg) then -2 else σ 20 a1.toNatClampNeg) else -1) (if (kIs a0 (σ 10 2) = true ∧ kIs a1 (σ 10 2) = true) then (if (σ 20 a0.toNatClampNeg = σ 20 a1.toNatClampNeg) then σ else gu (gu (kRem σ j u) 20 a0.toNatClampNeg ((kRem σ j u) 20 a1.toNatClampNeg)) 20 a1.toNatClampNeg ((kRem σ j u) 20 a0.toNatClampNeg)) else σ) τ := by
  refine gMet_of (by decide) (Nat.le_of_ble_eq_true rfl) ?_
  intro p e s m args below meth c C hr hlk ls hl hW
  have hx := C.1
  have hb := C.2.1
  have hl : lv_has ls 5 [(0, .ref (gAd G 0)), (1, .int a0), (2, .int a1)] := hl
  refine lv_aload_n hx hb dX9_swaps_0 rfl (lv_at hl 0 rfl) ?_
  refine gf_X9_19 C hW (by decide) rfl dX9_swaps_1 ?_
  refine gf_X9_105 C hW (by decide) rfl dX9_swaps_4 ?_
  refine lv_iload_n hx hb dX9_swaps_7 rfl (lv_at hl 1 rfl) ?_
  refine g_callvI (r := bI (kIs a0 (σ 10 2))) (σ' := σ) (rest := []) (As := [.int a0]) C hW kv_X9_141 10 (by decide) (gL_4 rfl) rfl (k_isDuty l G σ τ a0) ⟨Nat.le_of_ble_eq_true rfl, Nat.le_of_ble_eq_true rfl⟩ ⟨Nat.le_refl _, Nat.le_refl _⟩ rfl hl.1 rfl (Nat.le_of_ble_eq_true rfl) dX9_swaps_8 (fun H locs hW => ?_)
  refine lv_if_eq (tgt := 28) hx hb dX9_swaps_11 (by decide) (fun c_1 => ?_) (fun c_1 => ?_)
  · skip
    replace c_1 : (kIs a0 (σ 10 2)) = false := bI_eq0.mp c_1
    refine lv_iconst (v := (-1)) hx hb dX9_swaps_28 (by decide) ?_
    exact g_iret C hr hlk hW dX9_swaps_29 (by simp [c_1]) (by simp [c_1]) (rfl)
  · skip
    replace c_1 : (kIs a0 (σ 10 2)) = true := bI_ne0.mp c_1
    refine lv_aload_n hx hb dX9_swaps_14 rfl (lv_at hl 0 rfl) ?_
    refine gf_X9_19 C hW (by decide) rfl dX9_swaps_15 ?_
    refine gf_X9_105 C hW (by decide) rfl dX9_swaps_18 ?_
    refine lv_iload_n hx hb dX9_swaps_21 rfl (lv_at hl 2 rfl) ?_
    refine g_callvI (r := bI (kIs a1 (σ 10 2))) (σ' := σ) (rest := []) (As := [.int a1]) C hW kv_X9_141 10 (by decide) (gL_4 rfl) rfl (k_isDuty l G σ τ a1) ⟨Nat.le_of_ble_eq_true rfl, Nat.le_of_ble_eq_true rfl⟩ ⟨Nat.le_refl _, Nat.le_refl _⟩ rfl hl.1 rfl (Nat.le_of_ble_eq_true rfl) dX9_swaps_22 (fun H locs hW => ?_)
    refine lv_if_ne (tgt := 30) hx hb dX9_swaps_25 (by decide) (fun c_2 => ?_) (fun c_2 => ?_)
    · skip
      replace c_2 : (kIs a1 (σ 10 2)) = true := bI_ne0.mp c_2
      have hp0 := c_1
      rw [hD] at hp0
      have hp := kIs_nat hp0 (by omega)
      have hq0 := c_2
      rw [hD] at hq0
      have hq := kIs_nat hq0 (by omega)
      refine lv_aload_n hx hb dX9_swaps_30 rfl (lv_at hl 0 rfl) ?_
      refine gf_X9_19 C hW (by decide) rfl dX9_swaps_31 ?_
      refine gf_X9_113 C hW (by decide) rfl dX9_swaps_34 ?_
      refine gf_X9_144 C hW (by decide) rfl dX9_swaps_37 ?_
      refine lv_astore_n (lv' := [(3, .ref (gAd G 20)), (0, .ref (gAd G 0)), (1, .int a0), (2, .int a1)]) hx hb dX9_swaps_40 rfl hl (by decide) rfl (fun ls hl => ?_)
      refine lv_aload_n hx hb dX9_swaps_41 rfl (lv_at hl 0 rfl) ?_
      refine lv_iload_n hx hb dX9_swaps_42 rfl (lv_at hl 2 rfl) ?_
      refine g_ald (v := σ 20 a0.toNatClampNeg) a0.toNatClampNeg C hW (by decide) rfl hp.1 (show a0.toNatClampNeg < 8 by omega) (by decide) rfl dX9_swaps_43 ?_
      refine lv_aload_n hx hb dX9_swaps_44 rfl (lv_at hl 0 rfl) ?_
      refine lv_iload_n hx hb dX9_swaps_45 rfl (lv_at hl 3 rfl) ?_
      refine g_ald (v := σ 20 a1.toNatClampNeg) a1.toNatClampNeg C hW (by decide) rfl hq.1 (show a1.toNatClampNeg < 8 by omega) (by decide) rfl dX9_swaps_46 ?_
      refine lv_icmp_ne (tgt := 53) hx hb dX9_swaps_47 (by decide) (fun c_3 => ?_) (fun c_3 => ?_)
      · skip
        refine lv_aload_n hx hb dX9_swaps_53 rfl (lv_at hl 1 rfl) ?_
        refine gf_X9_26 C hW (by decide) rfl dX9_swaps_54 ?_
        refine lv_aload_n hx hb dX9_swaps_57 rfl (lv_at hl 1 rfl) ?_
        refine gf_X9_19 C hW (by decide) rfl dX9_swaps_58 ?_
        refine gf_X9_113 C hW (by decide) rfl dX9_swaps_61 ?_
        refine g_callvV (σ' := kRem σ j u) (rest := []) (As := [.ref (gAd G 16)]) C hW kv_X9_172 21 (by decide) (gL_2 rfl) rfl (k_rem l G σ τ j u hj hj2 hu hu2) ⟨Nat.le_of_ble_eq_true rfl, Nat.le_of_ble_eq_true rfl⟩ ⟨Nat.le_refl _, Nat.le_refl _⟩ rfl hl.1 rfl (Nat.le_of_ble_eq_true rfl) dX9_swaps_64 (fun H locs hW => ?_)
        refine lv_aload_n hx hb dX9_swaps_67 rfl (lv_at hl 0 rfl) ?_
        refine lv_iload_n hx hb dX9_swaps_68 rfl (lv_at hl 2 rfl) ?_
        refine g_ald (v := (kRem σ j u) 20 a0.toNatClampNeg) a0.toNatClampNeg C hW (by decide) rfl hp.1 (show a0.toNatClampNeg < 8 by omega) (by decide) rfl dX9_swaps_69 ?_
        refine lv_istore (lv' := [(4, .int ((kRem σ j u) 20 a0.toNatClampNeg)), (3, .ref (gAd G 20)), (0, .ref (gAd G 0)), (1, .int a0), (2, .int a1)]) hx hb dX9_swaps_70 hl (by decide) rfl (fun ls hl => ?_)
        refine lv_aload_n hx hb dX9_swaps_72 rfl (lv_at hl 1 rfl) ?_
        refine lv_iload_n hx hb dX9_swaps_73 rfl (lv_at hl 3 rfl) ?_
        refine lv_aload_n hx hb dX9_swaps_74 rfl (lv_at hl 1 rfl) ?_
        refine lv_iload_n hx hb dX9_swaps_75 rfl (lv_at hl 4 rfl) ?_
        refine g_ald (v := (kRem σ j u) 20 a1.toNatClampNeg) a1.toNatClampNeg C hW (by decide) rfl hq.1 (show a1.toNatClampNeg < 8 by omega) (by decide) rfl dX9_swaps_76 ?_
        refine g_ast a0.toNatClampNeg C hW (by decide) rfl hp.1 (show a0.toNatClampNeg < 8 by omega) (by decide) dX9_swaps_77 (fun H locs hW => ?_)
        refine lv_aload_n hx hb dX9_swaps_78 rfl (lv_at hl 1 rfl) ?_
        refine lv_iload_n hx hb dX9_swaps_79 rfl (lv_at hl 4 rfl) ?_
        refine lv_iload hx hb dX9_swaps_80 (lv_at hl 0 rfl) ?_
        refine g_ast a1.toNatClampNeg C hW (by decide) rfl hq.1 (show a1.toNatClampNeg < 8 by omega) (by decide) dX9_swaps_82 (fun H locs hW => ?_)
        refine lv_aload_n hx hb dX9_swaps_83 rfl (lv_at hl 1 rfl) ?_
        refine lv_iload_n hx hb dX9_swaps_84 rfl (lv_at hl 3 rfl) ?_
        refine g_ald (v := (gu (gu (kRem σ j u) 20 a0.toNatClampNeg ((kRem σ j u) 20 a1.toNatClampNeg)) 20 a1.toNatClampNeg ((kRem σ j u) 20 a0.toNatClampNeg)) 20 a0.toNatClampNeg) a0.toNatClampNeg C hW (by decide) rfl hp.1 (show a0.toNatClampNeg < 8 by omega) (by decide) rfl dX9_swaps_85 ?_
        exact g_iret C hr hlk hW dX9_swaps_86 (by rw [if_pos ⟨c_1, c_2⟩, if_neg c_3, gu_at, if_neg (by rintro ⟨_, q⟩; exact c_3 (by rw [q])), gu_at, if_pos ⟨rfl, rfl⟩, kRem_ne (by decide)]) (by rw [if_pos ⟨c_1, c_2⟩, if_neg c_3]) (rfl)
      · skip
        refine lv_bipush (v := (-2)) hx hb dX9_swaps_50 (by decide) ?_
        exact g_iret C hr hlk hW dX9_swaps_52 (by simp [c_1, c_2, c_3]) (by simp [c_1, c_2, c_3]) (rfl)
    · skip
      replace c_2 : (kIs a1 (σ 10 2)) = false := bI_eq0.mp c_2
      refine lv_iconst (v := (-1)) hx hb dX9_swaps_28 (by decide) ?_
      exact g_iret C hr hlk hW dX9_swaps_29 (by simp [c_1, c_2]) (by simp [c_1, c_2]) (rfl)
set_option maxHeartbeats 4000000 in
set_option maxRecDepth 100000 in
theorem k_undo (l : Launch) (G : gG) (σ : gSt) (τ : Nat → Int64) (j u : Nat) (hj : σ 21 2 = nI j) (hj2 : j < 10) (hu : σ 21 1 = nI u) (hu2 : u ≤ 10) : gI l yX9_undo cX9_undo 1 (some .int) 3 82 G [.ref (gAd G 0)] σ τ (if u = 0 then -2 else nI (u - 1)) (kRes σ j u) τ := by
  refine gMet_of (by decide) (Nat.le_of_ble_eq_true rfl) ?_
  intro p e s m args below meth c C hr hlk ls hl hW
  have hx := C.1
  have hb := C.2.1
  have hl : lv_has ls 1 [(0, .ref (gAd G 0))] := hl
  refine lv_aload_n hx hb dX9_undo_0 rfl (lv_at hl 0 rfl) ?_
  refine gf_X9_26 C hW (by decide) rfl dX9_undo_1 ?_
  refine gf_X9_166 (v := nI u) C hW (by decide) rfl hu dX9_undo_4 ?_
  refine lv_if_ne (tgt := 13) hx hb dX9_undo_7 (by decide) (fun c_1 => ?_) (fun c_1 => ?_)
  · skip
    replace c_1 : ¬ u = 0 := mt (nI_eq (a := u) (b := 0) (by omega) (by omega)).mpr c_1
    refine lv_aload_n hx hb dX9_undo_13 rfl (lv_at hl 0 rfl) ?_
    refine gf_X9_26 C hW (by decide) rfl dX9_undo_14 ?_
    refine lv_aload_n hx hb dX9_undo_17 rfl (lv_at hl 0 rfl) ?_
    refine gf_X9_19 C hW (by decide) rfl dX9_undo_18 ?_
    refine gf_X9_113 C hW (by decide) rfl dX9_undo_21 ?_
    refine g_callvV (σ' := kRes σ j u) (rest := []) (As := [.ref (gAd G 16)]) C hW kv_X9_190 21 (by decide) (gL_2 rfl) rfl (k_res l G σ τ j u hj hj2 hu hu2) ⟨Nat.le_of_ble_eq_true rfl, Nat.le_of_ble_eq_true rfl⟩ ⟨Nat.le_refl _, Nat.le_refl _⟩ rfl hl.1 rfl (Nat.le_of_ble_eq_true rfl) dX9_undo_24 (fun H locs hW => ?_)
    refine lv_aload_n hx hb dX9_undo_27 rfl (lv_at hl 0 rfl) ?_
    refine gf_X9_26 C hW (by decide) rfl dX9_undo_28 ?_
    refine gf_X9_166 (v := nI (u - 1)) C hW (by decide) rfl (kRes_21 c_1) dX9_undo_31 ?_
    exact g_iret C hr hlk hW dX9_undo_34 (by rw [if_neg c_1]) (rfl) (rfl)
  · skip
    replace c_1 : u = 0 := (nI_eq (a := u) (b := 0) (by omega) (by omega)).mp c_1
    refine lv_bipush (v := (-2)) hx hb dX9_undo_10 (by decide) ?_
    exact g_iret C hr hlk hW dX9_undo_12 (by rw [if_pos c_1]) (by rw [kRes, if_pos c_1]) (rfl)
set_option maxHeartbeats 4000000 in
set_option maxRecDepth 100000 in
theorem k_rings (l : Launch) (G : gG) (σ : gSt) (τ : Nat → Int64) (a0 : Int32) (D : Nat) (hD : σ 10 2 = nI D) (hD8 : D ≤ 8) (how : ∀ d, d < D → σ 20 d = nI (σ 20 d).toNatClampNeg ∧ (σ 20 d).toNatClampNeg < 5) : gI l yX9_rings cX9_rings 2 (some .int) 4 87 G [.ref (gAd G 0), .int a0] σ τ (if ¬ a0 < σ 16 0 ∧ a0 < 240 then sRung σ a0 D else -1) σ τ := by
  refine gMet_of (by decide) (Nat.le_of_ble_eq_true rfl) ?_
  intro p e s m args below meth c C hr hlk ls hl hW
  have hx := C.1
  have hb := C.2.1
  have hl : lv_has ls 2 [(0, .ref (gAd G 0)), (1, .int a0)] := hl
  refine lv_iload_n hx hb dX9_rings_0 rfl (lv_at hl 1 rfl) ?_
  refine lv_aload_n hx hb dX9_rings_1 rfl (lv_at hl 0 rfl) ?_
  refine gf_X9_19 C hW (by decide) rfl dX9_rings_2 ?_
  refine gf_X9_113 C hW (by decide) rfl dX9_rings_5 ?_
  refine gf_X9_127 (v := σ 16 0) C hW (by decide) rfl rfl dX9_rings_8 ?_
  refine lv_icmp_lt (tgt := 21) hx hb dX9_rings_11 (by decide) (fun c_1 => ?_) (fun c_1 => ?_)
  · skip
    refine lv_iconst (v := (-1)) hx hb dX9_rings_21 (by decide) ?_
    exact g_iret C hr hlk hW dX9_rings_22 (by rw [if_neg (by rintro ⟨q1, q2⟩; first | exact q1 c_1 | exact c_1 q2)]) (rfl) (rfl)
  · skip
    refine lv_iload_n hx hb dX9_rings_14 rfl (lv_at hl 1 rfl) ?_
    refine lv_sipush (v := 240) hx hb dX9_rings_15 (by decide) ?_
    refine lv_icmp_lt (tgt := 23) hx hb dX9_rings_18 (by decide) (fun c_2 => ?_) (fun c_2 => ?_)
    · skip
      refine lv_aload_n hx hb dX9_rings_23 rfl (lv_at hl 0 rfl) ?_
      refine gf_X9_19 C hW (by decide) rfl dX9_rings_24 ?_
      refine lv_iload_n hx hb dX9_rings_27 rfl (lv_at hl 1 rfl) ?_
      refine g_callvI (r := sRung σ a0 D) (σ' := σ) (rest := []) (As := [.int a0]) C hW kv_X9_130 9 (by decide) (gL_0 rfl) rfl (k_rung l G σ τ a0 D hD hD8 how) ⟨Nat.le_of_ble_eq_true rfl, Nat.le_of_ble_eq_true rfl⟩ ⟨Nat.le_refl _, Nat.le_refl _⟩ rfl hl.1 rfl (Nat.le_of_ble_eq_true rfl) dX9_rings_28 (fun H locs hW => ?_)
      exact g_iret C hr hlk hW dX9_rings_31 (by rw [if_pos ⟨c_1, c_2⟩]) (rfl) (rfl)
    · skip
      refine lv_iconst (v := (-1)) hx hb dX9_rings_21 (by decide) ?_
      exact g_iret C hr hlk hW dX9_rings_22 (by rw [if_neg (by rintro ⟨q1, q2⟩; first | exact q1 c_2 | exact c_2 q2)]) (rfl) (rfl)
set_option maxHeartbeats 4000000 in
set_option maxRecDepth 100000 in
theorem k_chord (l : Launch) (G : gG) (σ : gSt) (τ : Nat → Int64) (a0 a1 : Int32) (D : Nat) (hD : σ 10 2 = nI D) (hD8 : D ≤ 8) (mi : Nat) (hmi : σ 16 0 = nI mi) (hmi2 : mi ≤ 240) (how : ∀ d, d < D → σ 20 d = nI (σ 20 d).toNatClampNeg ∧ (σ 20 d).toNatClampNeg < 5) : gI l yX9_chord cX9_chord 3 (some .int) 5 110 G [.ref (gAd G 0), .int a0, .int a1] σ τ (if (kIs a0 (1 <<< (σ 10 1 &&& 31)) = true ∧ (decide (a1 = 0) || decide (a1 = 1)) = true) then (if a1 = 0 then rCount (fun m => decide (sRung σ (nI m) D = a0)) mi (240 - mi) else rFirst (fun m => decide (sRung σ (nI m) D = a0)) (240 - mi) mi) else -1) σ τ := by
  refine gMet_of (by decide) (Nat.le_of_ble_eq_true rfl) ?_
  intro p e s m args below meth c C hr hlk ls hl hW
  have hx := C.1
  have hb := C.2.1
  have hl : lv_has ls 3 [(0, .ref (gAd G 0)), (1, .int a0), (2, .int a1)] := hl
  refine lv_aload_n hx hb dX9_chord_0 rfl (lv_at hl 0 rfl) ?_
  refine gf_X9_19 C hW (by decide) rfl dX9_chord_1 ?_
  refine gf_X9_105 C hW (by decide) rfl dX9_chord_4 ?_
  refine lv_iload_n hx hb dX9_chord_7 rfl (lv_at hl 1 rfl) ?_
  refine g_callvI (r := bI (kIs a0 (1 <<< (σ 10 1 &&& 31)))) (σ' := σ) (rest := []) (As := [.int a0]) C hW kv_X9_193 10 (by decide) (gL_4 rfl) rfl (k_isSet l G σ τ a0) ⟨Nat.le_of_ble_eq_true rfl, Nat.le_of_ble_eq_true rfl⟩ ⟨Nat.le_refl _, Nat.le_refl _⟩ rfl hl.1 rfl (Nat.le_of_ble_eq_true rfl) dX9_chord_8 (fun H locs hW => ?_)
  refine lv_if_eq (tgt := 21) hx hb dX9_chord_11 (by decide) (fun c_1 => ?_) (fun c_1 => ?_)
  · skip
    replace c_1 : (kIs a0 (1 <<< (σ 10 1 &&& 31))) = false := bI_eq0.mp c_1
    refine lv_iconst (v := (-1)) hx hb dX9_chord_21 (by decide) ?_
    exact g_iret C hr hlk hW dX9_chord_22 (by rw [if_neg (by simp [c_1])]) (rfl) (rfl)
  · skip
    replace c_1 : (kIs a0 (1 <<< (σ 10 1 &&& 31))) = true := bI_ne0.mp c_1
    refine lv_iload_n hx hb dX9_chord_14 rfl (lv_at hl 2 rfl) ?_
    refine g_callsI (r := bI (decide (a1 = 0) || decide (a1 = 1))) (σ' := σ) (rest := []) (As := [.int a1]) C hW ks_X9_182 (k_isBit l G σ τ a1) ⟨Nat.le_of_ble_eq_true rfl, Nat.le_of_ble_eq_true rfl⟩ ⟨Nat.le_refl _, Nat.le_refl _⟩ rfl hl.1 rfl (Nat.le_of_ble_eq_true rfl) dX9_chord_15 (fun H locs hW => ?_)
    refine lv_if_ne (tgt := 23) hx hb dX9_chord_18 (by decide) (fun c_2 => ?_) (fun c_2 => ?_)
    · skip
      replace c_2 : (decide (a1 = 0) || decide (a1 = 1)) = true := bI_ne0.mp c_2
      refine lv_iload_n hx hb dX9_chord_23 rfl (lv_at hl 2 rfl) ?_
      refine lv_if_ne (tgt := 38) hx hb dX9_chord_24 (by decide) (fun c_3 => ?_) (fun c_3 => ?_)
      · skip
        refine lv_aload_n hx hb dX9_chord_38 rfl (lv_at hl 0 rfl) ?_
        refine gf_X9_19 C hW (by decide) rfl dX9_chord_39 ?_
        refine lv_iload_n hx hb dX9_chord_42 rfl (lv_at hl 1 rfl) ?_
        refine g_callvI (r := rFirst (fun m => decide (sRung σ (nI m) D = a0)) (240 - mi) mi) (σ' := σ) (rest := []) (As := [.int a0]) C hW kv_X9_199 9 (by decide) (gL_0 rfl) rfl (k_chordFirst l G σ τ a0 D hD hD8 mi hmi hmi2 how) ⟨Nat.le_of_ble_eq_true rfl, Nat.le_of_ble_eq_true rfl⟩ ⟨Nat.le_refl _, Nat.le_refl _⟩ rfl hl.1 rfl (Nat.le_of_ble_eq_true rfl) dX9_chord_43 (fun H locs hW => ?_)
        exact g_iret C hr hlk hW dX9_chord_46 (by rw [if_pos ⟨c_1, c_2⟩, if_neg c_3]) (rfl) (rfl)
      · skip
        refine lv_aload_n hx hb dX9_chord_27 rfl (lv_at hl 0 rfl) ?_
        refine gf_X9_19 C hW (by decide) rfl dX9_chord_28 ?_
        refine lv_iload_n hx hb dX9_chord_31 rfl (lv_at hl 1 rfl) ?_
        refine g_callvI (r := rCount (fun m => decide (sRung σ (nI m) D = a0)) mi (240 - mi)) (σ' := σ) (rest := []) (As := [.int a0]) C hW kv_X9_196 9 (by decide) (gL_0 rfl) rfl (k_chordMinutes l G σ τ a0 D hD hD8 mi hmi hmi2 how) ⟨Nat.le_of_ble_eq_true rfl, Nat.le_of_ble_eq_true rfl⟩ ⟨Nat.le_refl _, Nat.le_refl _⟩ rfl hl.1 rfl (Nat.le_of_ble_eq_true rfl) dX9_chord_32 (fun H locs hW => ?_)
        refine lv_goto (tgt := 46) hx hb dX9_chord_35 (by decide) ?_
        exact g_iret C hr hlk hW dX9_chord_46 (by rw [if_pos ⟨c_1, c_2⟩, if_pos c_3]) (rfl) (rfl)
    · skip
      replace c_2 : (decide (a1 = 0) || decide (a1 = 1)) = false := bI_eq0.mp c_2
      refine lv_iconst (v := (-1)) hx hb dX9_chord_21 (by decide) ?_
      exact g_iret C hr hlk hW dX9_chord_22 (by rw [if_neg (by simp [c_1, c_2])]) (rfl) (rfl)
set_option maxHeartbeats 4000000 in
set_option maxRecDepth 100000 in
theorem k_silence (l : Launch) (G : gG) (σ : gSt) (τ : Nat → Int64) (a0 : Int32) (D : Nat) (hD : σ 10 2 = nI D) (hD8 : D ≤ 8) (N : Nat) (hN : σ 10 1 = nI N) (hN5 : N ≤ 5) (mi : Nat) (hmi : σ 16 0 = nI mi) (hmi2 : mi ≤ 240) (how : ∀ d, d < D → σ 20 d = nI (σ 20 d).toNatClampNeg ∧ (σ 20 d).toNatClampNeg < 5) (o : Nat) (ho : kOfSet (σ 20) a0 D N = nI o) (ho2 : o ≤ 255) : gI l yX9_silence cX9_silence 2 (some .int) 5 120 G [.ref (gAd G 0), .int a0] σ τ (if (¬ a0 = 0 ∧ kIs a0 (1 <<< (σ 10 1 &&& 31)) = true) then kBest o (fun c => kAll (sNote σ a0 (nI o) D mi (240 - mi)).1 (fun r => kSil (σ 20) D a0 r (nI c)) (sNote σ a0 (nI o) D mi (240 - mi)).2 0) o else -1) (if (¬ a0 = 0 ∧ kIs a0 (1 <<< (σ 10 1 &&& 31)) = true) then sNoteS σ a0 (nI o) D mi (240 - mi) else σ) τ := by
  refine gMet_of (by decide) (Nat.le_of_ble_eq_true rfl) ?_
  intro p e s m args below meth c C hr hlk ls hl hW
  have hx := C.1
  have hb := C.2.1
  have hl : lv_has ls 2 [(0, .ref (gAd G 0)), (1, .int a0)] := hl
  refine lv_iload_n hx hb dX9_silence_0 rfl (lv_at hl 1 rfl) ?_
  refine lv_if_eq (tgt := 18) hx hb dX9_silence_1 (by decide) (fun c_1 => ?_) (fun c_1 => ?_)
  · skip
    refine lv_iconst (v := (-1)) hx hb dX9_silence_18 (by decide) ?_
    exact g_iret C hr hlk hW dX9_silence_19 (by rw [if_neg (by simp [c_1])]) (by rw [if_neg (by simp [c_1])]) (rfl)
  · skip
    refine lv_aload_n hx hb dX9_silence_4 rfl (lv_at hl 0 rfl) ?_
    refine gf_X9_19 C hW (by decide) rfl dX9_silence_5 ?_
    refine gf_X9_105 C hW (by decide) rfl dX9_silence_8 ?_
    refine lv_iload_n hx hb dX9_silence_11 rfl (lv_at hl 1 rfl) ?_
    refine g_callvI (r := bI (kIs a0 (1 <<< (σ 10 1 &&& 31)))) (σ' := σ) (rest := []) (As := [.int a0]) C hW kv_X9_193 10 (by decide) (gL_4 rfl) rfl (k_isSet l G σ τ a0) ⟨Nat.le_of_ble_eq_true rfl, Nat.le_of_ble_eq_true rfl⟩ ⟨Nat.le_refl _, Nat.le_refl _⟩ rfl hl.1 rfl (Nat.le_of_ble_eq_true rfl) dX9_silence_12 (fun H locs hW => ?_)
    refine lv_if_ne (tgt := 20) hx hb dX9_silence_15 (by decide) (fun c_2 => ?_) (fun c_2 => ?_)
    · skip
      replace c_2 : (kIs a0 (1 <<< (σ 10 1 &&& 31))) = true := bI_ne0.mp c_2
      refine lv_aload_n hx hb dX9_silence_20 rfl (lv_at hl 0 rfl) ?_
      refine gf_X9_47 C hW (by decide) rfl dX9_silence_21 ?_
      refine lv_aload_n hx hb dX9_silence_24 rfl (lv_at hl 0 rfl) ?_
      refine gf_X9_19 C hW (by decide) rfl dX9_silence_25 ?_
      refine lv_iload_n hx hb dX9_silence_28 rfl (lv_at hl 1 rfl) ?_
      refine g_callvI (r := kBest o (fun c => kAll (sNote σ a0 (nI o) D mi (240 - mi)).1 (fun r => kSil (σ 20) D a0 r (nI c)) (sNote σ a0 (nI o) D mi (240 - mi)).2 0) o) (σ' := sNoteS σ a0 (nI o) D mi (240 - mi)) (rest := []) (As := [.ref (gAd G 9), .int a0]) C hW kv_X9_202 81 (by decide) (gL_7 rfl) rfl (k_fewest l G σ τ a0 D hD hD8 N hN hN5 mi hmi hmi2 how o ho ho2) ⟨Nat.le_of_ble_eq_true rfl, Nat.le_of_ble_eq_true rfl⟩ ⟨Nat.le_refl _, Nat.le_refl _⟩ rfl hl.1 rfl (Nat.le_of_ble_eq_true rfl) dX9_silence_29 (fun H locs hW => ?_)
      exact g_iret C hr hlk hW dX9_silence_32 (by rw [if_pos ⟨c_1, c_2⟩]) (by rw [if_pos ⟨c_1, c_2⟩]) (rfl)
    · skip
      replace c_2 : (kIs a0 (1 <<< (σ 10 1 &&& 31))) = false := bI_eq0.mp c_2
      refine lv_iconst (v := (-1)) hx hb dX9_silence_18 (by decide) ?_
      exact g_iret C hr hlk hW dX9_silence_19 (by rw [if_neg (by simp [c_1, c_2])]) (by rw [if_neg (by simp [c_1, c_2])]) (rfl)
set_option maxHeartbeats 4000000 in
set_option maxRecDepth 100000 in
theorem k_least (l : Launch) (G : gG) (σ : gSt) (τ : Nat → Int64) (a0 a1 : Int32) (D : Nat) (hD : σ 10 2 = nI D) (hD8 : D ≤ 8) (N : Nat) (hN : σ 10 1 = nI N) (hN5 : N ≤ 5) (wk : Nat) (hwk : σ 10 3 = nI wk) (hwk9 : wk ≤ 9) (P : Nat) (hP : σ 10 0 = nI P) (hP6 : P ≤ 6) (mi : Nat) (hmi : σ 16 0 = nI mi) (hmi2 : mi ≤ 240) (hpl : kIs a0 (σ 10 1) = true → σ 17 a0.toNatClampNeg = nI (σ 17 a0.toNatClampNeg).toNatClampNeg ∧ (σ 17 a0.toNatClampNeg).toNatClampNeg < 6 ∧ σ 18 a0.toNatClampNeg = nI (σ 18 a0.toNatClampNeg).toNatClampNeg ∧ (σ 18 a0.toNatClampNeg).toNatClampNeg ≤ 1000) : gI l yX9_least cX9_least 3 (some .int) 5 118 G [.ref (gAd G 0), .int a0, .int a1] σ τ (if (kIs a0 (σ 10 1) = true ∧ (decide (a1 = 0) || decide (a1 = 1)) = true) then (if a1 = 0 then (kArr ((kWS σ a0 D wk P (240 - mi)) 79) ((kWS σ a0 D wk P (240 - mi)) 80) mi (σ 18 a0.toNatClampNeg).toNatClampNeg (σ 17 a0.toNatClampNeg).toNatClampNeg) else if 0 < (σ 18 a0.toNatClampNeg).toNatClampNeg ∨ 240 ≤ mi then nI (σ 17 a0.toNatClampNeg).toNatClampNeg else kTo (fun t => sTolls (kWS σ a0 D wk P (240 - mi)) wk mi (σ 17 a0.toNatClampNeg).toNatClampNeg t) (kArr ((kWS σ a0 D wk P (240 - mi)) 79) ((kWS σ a0 D wk P (240 - mi)) 80) mi (σ 18 a0.toNatClampNeg).toNatClampNeg (σ 17 a0.toNatClampNeg).toNatClampNeg) (nI (σ 17 a0.toNatClampNeg).toNatClampNeg) P 0) else -1) (if (kIs a0 (σ 10 1) = true ∧ (decide (a1 = 0) || decide (a1 = 1)) = true) then (kWS σ a0 D wk P (240 - mi)) else σ) τ := by
  refine gMet_of (by decide) (Nat.le_of_ble_eq_true rfl) ?_
  intro p e s m args below meth c C hr hlk ls hl hW
  have hx := C.1
  have hb := C.2.1
  have hl : lv_has ls 3 [(0, .ref (gAd G 0)), (1, .int a0), (2, .int a1)] := hl
  refine lv_aload_n hx hb dX9_least_0 rfl (lv_at hl 0 rfl) ?_
  refine gf_X9_19 C hW (by decide) rfl dX9_least_1 ?_
  refine gf_X9_105 C hW (by decide) rfl dX9_least_4 ?_
  refine lv_iload_n hx hb dX9_least_7 rfl (lv_at hl 1 rfl) ?_
  refine g_callvI (r := bI (kIs a0 (σ 10 1))) (σ' := σ) (rest := []) (As := [.int a0]) C hW kv_X9_108 10 (by decide) (gL_4 rfl) rfl (k_isPerson l G σ τ a0) ⟨Nat.le_of_ble_eq_true rfl, Nat.le_of_ble_eq_true rfl⟩ ⟨Nat.le_refl _, Nat.le_refl _⟩ rfl hl.1 rfl (Nat.le_of_ble_eq_true rfl) dX9_least_8 (fun H locs hW => ?_)
  refine lv_if_eq (tgt := 21) hx hb dX9_least_11 (by decide) (fun c_1 => ?_) (fun c_1 => ?_)
  · skip
    replace c_1 : (kIs a0 (σ 10 1)) = false := bI_eq0.mp c_1
    refine lv_iconst (v := (-1)) hx hb dX9_least_21 (by decide) ?_
    exact g_iret C hr hlk hW dX9_least_22 (by rw [if_neg (by simp [c_1])]) (by rw [if_neg (by simp [c_1])]) (rfl)
  · skip
    replace c_1 : (kIs a0 (σ 10 1)) = true := bI_ne0.mp c_1
    refine lv_iload_n hx hb dX9_least_14 rfl (lv_at hl 2 rfl) ?_
    refine g_callsI (r := bI (decide (a1 = 0) || decide (a1 = 1))) (σ' := σ) (rest := []) (As := [.int a1]) C hW ks_X9_182 (k_isBit l G σ τ a1) ⟨Nat.le_of_ble_eq_true rfl, Nat.le_of_ble_eq_true rfl⟩ ⟨Nat.le_refl _, Nat.le_refl _⟩ rfl hl.1 rfl (Nat.le_of_ble_eq_true rfl) dX9_least_15 (fun H locs hW => ?_)
    refine lv_if_ne (tgt := 23) hx hb dX9_least_18 (by decide) (fun c_2 => ?_) (fun c_2 => ?_)
    · skip
      replace c_2 : (decide (a1 = 0) || decide (a1 = 1)) = true := bI_ne0.mp c_2
      have hp0 := c_1
      rw [hN] at hp0
      have hp := kIs_nat hp0 (by omega)
      obtain ⟨hat, ha6, hgo, hg⟩ := hpl c_1
      refine lv_aload_n hx hb dX9_least_23 rfl (lv_at hl 0 rfl) ?_
      refine gf_X9_40 C hW (by decide) rfl dX9_least_24 ?_
      refine lv_aload_n hx hb dX9_least_27 rfl (lv_at hl 0 rfl) ?_
      refine gf_X9_19 C hW (by decide) rfl dX9_least_28 ?_
      refine lv_iload_n hx hb dX9_least_31 rfl (lv_at hl 1 rfl) ?_
      refine g_callvV (σ' := kWS σ a0 D wk P (240 - mi)) (rest := []) (As := [.ref (gAd G 9), .int a0]) C hW kv_X9_206 77 (by decide) (gL_8 rfl) rfl (k_weigh l G σ τ a0 D hD hD8 P hP hP6 mi hmi hmi2 wk hwk hwk9) ⟨Nat.le_of_ble_eq_true rfl, Nat.le_of_ble_eq_true rfl⟩ ⟨Nat.le_refl _, Nat.le_refl _⟩ rfl hl.1 rfl (Nat.le_of_ble_eq_true rfl) dX9_least_32 (fun H locs hW => ?_)
      refine lv_iload_n hx hb dX9_least_35 rfl (lv_at hl 2 rfl) ?_
      refine lv_if_ne (tgt := 57) hx hb dX9_least_36 (by decide) (fun c_3 => ?_) (fun c_3 => ?_)
      · skip
        refine lv_aload_n hx hb dX9_least_57 rfl (lv_at hl 0 rfl) ?_
        refine gf_X9_40 C hW (by decide) rfl dX9_least_58 ?_
        refine lv_aload_n hx hb dX9_least_61 rfl (lv_at hl 0 rfl) ?_
        refine gf_X9_19 C hW (by decide) rfl dX9_least_62 ?_
        refine lv_iload_n hx hb dX9_least_65 rfl (lv_at hl 1 rfl) ?_
        refine g_callvI (r := if 0 < (σ 18 a0.toNatClampNeg).toNatClampNeg ∨ 240 ≤ mi then nI (σ 17 a0.toNatClampNeg).toNatClampNeg else kTo (fun t => sTolls (kWS σ a0 D wk P (240 - mi)) wk mi (σ 17 a0.toNatClampNeg).toNatClampNeg t) (kArr ((kWS σ a0 D wk P (240 - mi)) 79) ((kWS σ a0 D wk P (240 - mi)) 80) mi (σ 18 a0.toNatClampNeg).toNatClampNeg (σ 17 a0.toNatClampNeg).toNatClampNeg) (nI (σ 17 a0.toNatClampNeg).toNatClampNeg) P 0) (σ' := kWS σ a0 D wk P (240 - mi)) (rest := []) (As := [.ref (gAd G 9), .int a0]) C hW kv_X9_214 77 (by decide) (gL_8 rfl) rfl (k_bestPlace l G (kWS σ a0 D wk P (240 - mi)) τ a0 mi (by rw [kWS_ne (by decide) (by decide) (by decide)]; exact hmi) hmi2 a0.toNatClampNeg (σ 17 a0.toNatClampNeg).toNatClampNeg (σ 18 a0.toNatClampNeg).toNatClampNeg hp.1 (by omega) (by rw [kWS_ne (by decide) (by decide) (by decide)]; exact hat) ha6 (by rw [kWS_ne (by decide) (by decide) (by decide)]; exact hgo) hg P (by rw [kWS_ne (by decide) (by decide) (by decide)]; exact hP) hP6 wk (by rw [kWS_ne (by decide) (by decide) (by decide)]; exact hwk) hwk9) ⟨Nat.le_of_ble_eq_true rfl, Nat.le_of_ble_eq_true rfl⟩ ⟨Nat.le_refl _, Nat.le_refl _⟩ rfl hl.1 rfl (Nat.le_of_ble_eq_true rfl) dX9_least_66 (fun H locs hW => ?_)
        exact g_iret C hr hlk hW dX9_least_69 (by rw [if_pos (c := (kIs a0 (σ 10 1) = true ∧ (decide (a1 = 0) || decide (a1 = 1)) = true)) ⟨c_1, c_2⟩, if_neg c_3]) (by rw [if_pos ⟨c_1, c_2⟩]) (rfl)
      · skip
        refine lv_aload_n hx hb dX9_least_39 rfl (lv_at hl 0 rfl) ?_
        refine gf_X9_40 C hW (by decide) rfl dX9_least_40 ?_
        refine lv_aload_n hx hb dX9_least_43 rfl (lv_at hl 0 rfl) ?_
        refine gf_X9_19 C hW (by decide) rfl dX9_least_44 ?_
        refine gf_X9_113 C hW (by decide) rfl dX9_least_47 ?_
        refine lv_iload_n hx hb dX9_least_50 rfl (lv_at hl 1 rfl) ?_
        refine g_callvI (r := (kArr ((kWS σ a0 D wk P (240 - mi)) 79) ((kWS σ a0 D wk P (240 - mi)) 80) mi (σ 18 a0.toNatClampNeg).toNatClampNeg (σ 17 a0.toNatClampNeg).toNatClampNeg)) (σ' := kWS σ a0 D wk P (240 - mi)) (rest := []) (As := [.ref (gAd G 16), .int a0]) C hW kv_X9_210 77 (by decide) (gL_8 rfl) rfl (k_fewestTolls l G (kWS σ a0 D wk P (240 - mi)) τ a0 mi (by rw [kWS_ne (by decide) (by decide) (by decide)]; exact hmi) hmi2 a0.toNatClampNeg (σ 17 a0.toNatClampNeg).toNatClampNeg (σ 18 a0.toNatClampNeg).toNatClampNeg hp.1 (by omega) (by rw [kWS_ne (by decide) (by decide) (by decide)]; exact hat) ha6 (by rw [kWS_ne (by decide) (by decide) (by decide)]; exact hgo) hg) ⟨Nat.le_of_ble_eq_true rfl, Nat.le_of_ble_eq_true rfl⟩ ⟨Nat.le_refl _, Nat.le_refl _⟩ rfl hl.1 rfl (Nat.le_of_ble_eq_true rfl) dX9_least_51 (fun H locs hW => ?_)
        refine lv_goto (tgt := 69) hx hb dX9_least_54 (by decide) ?_
        exact g_iret C hr hlk hW dX9_least_69 (by rw [if_pos (c := (kIs a0 (σ 10 1) = true ∧ (decide (a1 = 0) || decide (a1 = 1)) = true)) ⟨c_1, c_2⟩, if_pos c_3]) (by rw [if_pos ⟨c_1, c_2⟩]) (rfl)
    · skip
      replace c_2 : (decide (a1 = 0) || decide (a1 = 1)) = false := bI_eq0.mp c_2
      refine lv_iconst (v := (-1)) hx hb dX9_least_21 (by decide) ?_
      exact g_iret C hr hlk hW dX9_least_22 (by rw [if_neg (by simp [c_1, c_2])]) (by rw [if_neg (by simp [c_1, c_2])]) (rfl)
set_option maxHeartbeats 4000000 in
set_option maxRecDepth 100000 in
theorem k_hears (l : Launch) (G : gG) (σ : gSt) (τ : Nat → Int64) (a0 a1 a2 : Int32) (hd : Nat) (hh : σ 73 0 = nI hd) (hh6 : hd ≤ 6) : gI l yX9_hears cX9_hears 4 (some .int) 1 23 G [.ref (gAd G 0), .int a0, .int a1, .int a2] σ τ (if (kIs a0 (σ 10 1) = true ∧ kIs a1 240 = true ∧ (decide (a2 = 0) || decide (a2 = 1)) = true) then (if hd < 6 then nI (hd + 1) else -3) else -1) (if (kIs a0 (σ 10 1) = true ∧ kIs a1 240 = true ∧ (decide (a2 = 0) || decide (a2 = 1)) = true) then (if hd < 6 then gu (gu (gu (gu σ 74 hd a0) 75 hd a1) 76 hd a2) 73 0 (nI (hd + 1)) else σ) else σ) τ := by
  refine gMet_of (by decide) (Nat.le_of_ble_eq_true rfl) ?_
  intro p e s m args below meth c C hr hlk ls hl hW
  have hx := C.1
  have hb := C.2.1
  have hl : lv_has ls 4 [(0, .ref (gAd G 0)), (1, .int a0), (2, .int a1), (3, .int a2)] := hl
  refine lv_aload_n hx hb dX9_hears_0 rfl (lv_at hl 0 rfl) ?_
  refine gf_X9_19 C hW (by decide) rfl dX9_hears_1 ?_
  refine gf_X9_105 C hW (by decide) rfl dX9_hears_4 ?_
  refine lv_iload_n hx hb dX9_hears_7 rfl (lv_at hl 1 rfl) ?_
  refine g_callvI (r := bI (kIs a0 (σ 10 1))) (σ' := σ) (rest := []) (As := [.int a0]) C hW kv_X9_108 10 (by decide) (gL_4 rfl) rfl (k_isPerson l G σ τ a0) ⟨Nat.le_of_ble_eq_true rfl, Nat.le_of_ble_eq_true rfl⟩ ⟨Nat.le_refl _, Nat.le_refl _⟩ rfl hl.1 rfl (Nat.le_of_ble_eq_true rfl) dX9_hears_8 (fun H locs hW => ?_)
  refine lv_if_eq (tgt := 28) hx hb dX9_hears_11 (by decide) (fun c_1 => ?_) (fun c_1 => ?_)
  · skip
    replace c_1 : (kIs a0 (σ 10 1)) = false := bI_eq0.mp c_1
    refine lv_iconst (v := (-1)) hx hb dX9_hears_28 (by decide) ?_
    exact g_iret C hr hlk hW dX9_hears_29 (by rw [if_neg (by simp [c_1])]) (by rw [if_neg (by simp [c_1])]) (rfl)
  · skip
    replace c_1 : (kIs a0 (σ 10 1)) = true := bI_ne0.mp c_1
    refine lv_iload_n hx hb dX9_hears_14 rfl (lv_at hl 2 rfl) ?_
    refine g_callsI (r := bI (kIs a1 240)) (σ' := σ) (rest := []) (As := [.int a1]) C hW ks_X9_217 (k_isMinute l G σ τ a1) ⟨Nat.le_of_ble_eq_true rfl, Nat.le_of_ble_eq_true rfl⟩ ⟨Nat.le_refl _, Nat.le_refl _⟩ rfl hl.1 rfl (Nat.le_of_ble_eq_true rfl) dX9_hears_15 (fun H locs hW => ?_)
    refine lv_if_eq (tgt := 28) hx hb dX9_hears_18 (by decide) (fun c_2 => ?_) (fun c_2 => ?_)
    · skip
      replace c_2 : (kIs a1 240) = false := bI_eq0.mp c_2
      refine lv_iconst (v := (-1)) hx hb dX9_hears_28 (by decide) ?_
      exact g_iret C hr hlk hW dX9_hears_29 (by rw [if_neg (by simp [c_1, c_2])]) (by rw [if_neg (by simp [c_1, c_2])]) (rfl)
    · skip
      replace c_2 : (kIs a1 240) = true := bI_ne0.mp c_2
      refine lv_iload_n hx hb dX9_hears_21 rfl (lv_at hl 3 rfl) ?_
      refine g_callsI (r := bI (decide (a2 = 0) || decide (a2 = 1))) (σ' := σ) (rest := []) (As := [.int a2]) C hW ks_X9_182 (k_isBit l G σ τ a2) ⟨Nat.le_of_ble_eq_true rfl, Nat.le_of_ble_eq_true rfl⟩ ⟨Nat.le_refl _, Nat.le_refl _⟩ rfl hl.1 rfl (Nat.le_of_ble_eq_true rfl) dX9_hears_22 (fun H locs hW => ?_)
      refine lv_if_ne (tgt := 30) hx hb dX9_hears_25 (by decide) (fun c_3 => ?_) (fun c_3 => ?_)
      · skip
        replace c_3 : (decide (a2 = 0) || decide (a2 = 1)) = true := bI_ne0.mp c_3
        refine lv_aload_n hx hb dX9_hears_30 rfl (lv_at hl 0 rfl) ?_
        refine gf_X9_33 C hW (by decide) rfl dX9_hears_31 ?_
        refine lv_iload_n hx hb dX9_hears_34 rfl (lv_at hl 1 rfl) ?_
        refine lv_iload_n hx hb dX9_hears_35 rfl (lv_at hl 2 rfl) ?_
        refine lv_iload_n hx hb dX9_hears_36 rfl (lv_at hl 3 rfl) ?_
        refine g_callvI (r := bI (decide (hd < 6))) (σ' := if hd < 6 then gu (gu (gu (gu σ 74 hd a0) 75 hd a1) 76 hd a2) 73 0 (nI (hd + 1)) else σ) (rest := []) (As := [.int a0, .int a1, .int a2]) C hW kv_X9_220 73 (by decide) (gL_1 rfl) rfl (k_add l G σ τ a0 a1 a2 hd hh hh6) ⟨Nat.le_of_ble_eq_true rfl, Nat.le_of_ble_eq_true rfl⟩ ⟨Nat.le_refl _, Nat.le_refl _⟩ rfl hl.1 rfl (Nat.le_of_ble_eq_true rfl) dX9_hears_37 (fun H locs hW => ?_)
        refine lv_if_eq (tgt := 53) hx hb dX9_hears_40 (by decide) (fun c_4 => ?_) (fun c_4 => ?_)
        · skip
          replace c_4 : (decide (hd < 6)) = false := bI_eq0.mp c_4
          refine lv_bipush (v := (-3)) hx hb dX9_hears_53 (by decide) ?_
          exact g_iret C hr hlk hW dX9_hears_55 (by rw [if_pos ⟨c_1, c_2, c_3⟩, if_neg (of_decide_eq_false c_4)]) (by rw [if_pos (c := (kIs a0 (σ 10 1) = true ∧ kIs a1 240 = true ∧ (decide (a2 = 0) || decide (a2 = 1)) = true)) ⟨c_1, c_2, c_3⟩]) (rfl)
        · skip
          replace c_4 : (decide (hd < 6)) = true := bI_ne0.mp c_4
          refine lv_aload_n hx hb dX9_hears_43 rfl (lv_at hl 0 rfl) ?_
          refine gf_X9_33 C hW (by decide) rfl dX9_hears_44 ?_
          refine gf_X9_224 (v := nI (hd + 1)) C hW (by decide) rfl (by rw [if_pos (of_decide_eq_true c_4)]; rfl) dX9_hears_47 ?_
          refine lv_goto (tgt := 55) hx hb dX9_hears_50 (by decide) ?_
          exact g_iret C hr hlk hW dX9_hears_55 (by rw [if_pos ⟨c_1, c_2, c_3⟩, if_pos (of_decide_eq_true c_4)]) (by rw [if_pos (c := (kIs a0 (σ 10 1) = true ∧ kIs a1 240 = true ∧ (decide (a2 = 0) || decide (a2 = 1)) = true)) ⟨c_1, c_2, c_3⟩]) (rfl)
      · skip
        replace c_3 : (decide (a2 = 0) || decide (a2 = 1)) = false := bI_eq0.mp c_3
        refine lv_iconst (v := (-1)) hx hb dX9_hears_28 (by decide) ?_
        exact g_iret C hr hlk hW dX9_hears_29 (by rw [if_neg (by simp [c_1, c_2, c_3])]) (by rw [if_neg (by simp [c_1, c_2, c_3])]) (rfl)
set_option maxHeartbeats 4000000 in
set_option maxRecDepth 100000 in
theorem k_forget (l : Launch) (G : gG) (σ : gSt) (τ : Nat → Int64) : gI l yX9_forget cX9_forget 1 (some .int) 1 21 G [.ref (gAd G 0)] σ τ (σ 73 0) (gu σ 73 0 0) τ := by
  refine gMet_of (by decide) (Nat.le_of_ble_eq_true rfl) ?_
  intro p e s m args below meth c C hr hlk ls hl hW
  have hx := C.1
  have hb := C.2.1
  have hl : lv_has ls 1 [(0, .ref (gAd G 0))] := hl
  refine lv_aload_n hx hb dX9_forget_0 rfl (lv_at hl 0 rfl) ?_
  refine gf_X9_33 C hW (by decide) rfl dX9_forget_1 ?_
  refine g_callvI (r := σ 73 0) (σ' := gu σ 73 0 0) (rest := []) (As := []) C hW kv_X9_102 73 (by decide) (gL_1 rfl) rfl (k_drop l G σ τ) ⟨Nat.le_of_ble_eq_true rfl, Nat.le_of_ble_eq_true rfl⟩ ⟨Nat.le_refl _, Nat.le_refl _⟩ rfl hl.1 rfl (Nat.le_of_ble_eq_true rfl) dX9_forget_4 (fun H locs hW => ?_)
  exact g_iret C hr hlk hW dX9_forget_7 (by simp [bI]) (rfl) (rfl)
set_option maxHeartbeats 4000000 in
set_option maxRecDepth 100000 in
theorem k_can (l : Launch) (G : gG) (σ : gSt) (τ : Nat → Int64) (a0 : Int32) (hd : Nat) (hh : σ 73 0 = nI hd) (hh6 : hd ≤ 6) (D : Nat) (hD : σ 10 2 = nI D) (hD8 : D ≤ 8) (P : Nat) (hP : σ 10 0 = nI P) (hP6 : P ≤ 6) : gI l yX9_can cX9_can 2 (some .int) 6 138 G [.ref (gAd G 0), .int a0] σ τ (if kIs a0 (σ 10 1) = true then kPlaces (fun k => sFits σ a0 (nI k) D hd) P else -1) σ τ := by
  refine gMet_of (by decide) (Nat.le_of_ble_eq_true rfl) ?_
  intro p e s m args below meth c C hr hlk ls hl hW
  have hx := C.1
  have hb := C.2.1
  have hl : lv_has ls 2 [(0, .ref (gAd G 0)), (1, .int a0)] := hl
  refine lv_aload_n hx hb dX9_can_0 rfl (lv_at hl 0 rfl) ?_
  refine gf_X9_19 C hW (by decide) rfl dX9_can_1 ?_
  refine gf_X9_105 C hW (by decide) rfl dX9_can_4 ?_
  refine lv_iload_n hx hb dX9_can_7 rfl (lv_at hl 1 rfl) ?_
  refine g_callvI (r := bI (kIs a0 (σ 10 1))) (σ' := σ) (rest := []) (As := [.int a0]) C hW kv_X9_108 10 (by decide) (gL_4 rfl) rfl (k_isPerson l G σ τ a0) ⟨Nat.le_of_ble_eq_true rfl, Nat.le_of_ble_eq_true rfl⟩ ⟨Nat.le_refl _, Nat.le_refl _⟩ rfl hl.1 rfl (Nat.le_of_ble_eq_true rfl) dX9_can_8 (fun H locs hW => ?_)
  refine lv_if_eq (tgt := 29) hx hb dX9_can_11 (by decide) (fun c_1 => ?_) (fun c_1 => ?_)
  · skip
    replace c_1 : (kIs a0 (σ 10 1)) = false := bI_eq0.mp c_1
    refine lv_iconst (v := (-1)) hx hb dX9_can_29 (by decide) ?_
    exact g_iret C hr hlk hW dX9_can_30 (by rw [if_neg (bneg c_1)]) (rfl) (rfl)
  · skip
    replace c_1 : (kIs a0 (σ 10 1)) = true := bI_ne0.mp c_1
    refine lv_aload_n hx hb dX9_can_14 rfl (lv_at hl 0 rfl) ?_
    refine gf_X9_33 C hW (by decide) rfl dX9_can_15 ?_
    refine lv_aload_n hx hb dX9_can_18 rfl (lv_at hl 0 rfl) ?_
    refine gf_X9_19 C hW (by decide) rfl dX9_can_19 ?_
    refine lv_iload_n hx hb dX9_can_22 rfl (lv_at hl 1 rfl) ?_
    refine g_callvI (r := kPlaces (fun k => sFits σ a0 (nI k) D hd) P) (σ' := σ) (rest := []) (As := [.ref (gAd G 9), .int a0]) C hW kv_X9_227 73 (by decide) (gL_1 rfl) rfl (k_placesFor l G σ τ a0 hd hh hh6 D hD hD8 P hP hP6) ⟨Nat.le_of_ble_eq_true rfl, Nat.le_of_ble_eq_true rfl⟩ ⟨Nat.le_refl _, Nat.le_refl _⟩ rfl hl.1 rfl (Nat.le_of_ble_eq_true rfl) dX9_can_23 (fun H locs hW => ?_)
    refine lv_goto (tgt := 30) hx hb dX9_can_26 (by decide) ?_
    exact g_iret C hr hlk hW dX9_can_30 (by rw [if_pos c_1]) (rfl) (rfl)
set_option maxHeartbeats 4000000 in
set_option maxRecDepth 100000 in
theorem k_tells (l : Launch) (G : gG) (σ : gSt) (τ : Nat → Int64) (a0 a1 a2 : Int32) (D : Nat) (hD : σ 10 2 = nI D) (hD8 : D ≤ 8) : gI l yX9_tells cX9_tells 4 (some .int) 5 114 G [.ref (gAd G 0), .int a0, .int a1, .int a2] σ τ (if (kIs a0 (σ 10 1) = true ∧ kIs a1 (σ 10 0) = true ∧ kIs a2 (σ 10 0) = true) then rFirst (fun m => !(sRungAt σ a1 a0 (nI m) D == sRungAt σ a2 a0 (nI m) D)) 240 0 else -1) σ τ := by
  refine gMet_of (by decide) (Nat.le_of_ble_eq_true rfl) ?_
  intro p e s m args below meth c C hr hlk ls hl hW
  have hx := C.1
  have hb := C.2.1
  have hl : lv_has ls 4 [(0, .ref (gAd G 0)), (1, .int a0), (2, .int a1), (3, .int a2)] := hl
  refine lv_aload_n hx hb dX9_tells_0 rfl (lv_at hl 0 rfl) ?_
  refine gf_X9_19 C hW (by decide) rfl dX9_tells_1 ?_
  refine gf_X9_105 C hW (by decide) rfl dX9_tells_4 ?_
  refine lv_iload_n hx hb dX9_tells_7 rfl (lv_at hl 1 rfl) ?_
  refine g_callvI (r := bI (kIs a0 (σ 10 1))) (σ' := σ) (rest := []) (As := [.int a0]) C hW kv_X9_108 10 (by decide) (gL_4 rfl) rfl (k_isPerson l G σ τ a0) ⟨Nat.le_of_ble_eq_true rfl, Nat.le_of_ble_eq_true rfl⟩ ⟨Nat.le_refl _, Nat.le_refl _⟩ rfl hl.1 rfl (Nat.le_of_ble_eq_true rfl) dX9_tells_8 (fun H locs hW => ?_)
  refine lv_if_eq (tgt := 42) hx hb dX9_tells_11 (by decide) (fun c_1 => ?_) (fun c_1 => ?_)
  · skip
    replace c_1 : (kIs a0 (σ 10 1)) = false := bI_eq0.mp c_1
    refine lv_iconst (v := (-1)) hx hb dX9_tells_42 (by decide) ?_
    exact g_iret C hr hlk hW dX9_tells_43 (by rw [if_neg (by simp [c_1])]) (rfl) (rfl)
  · skip
    replace c_1 : (kIs a0 (σ 10 1)) = true := bI_ne0.mp c_1
    refine lv_aload_n hx hb dX9_tells_14 rfl (lv_at hl 0 rfl) ?_
    refine gf_X9_19 C hW (by decide) rfl dX9_tells_15 ?_
    refine gf_X9_105 C hW (by decide) rfl dX9_tells_18 ?_
    refine lv_iload_n hx hb dX9_tells_21 rfl (lv_at hl 2 rfl) ?_
    refine g_callvI (r := bI (kIs a1 (σ 10 0))) (σ' := σ) (rest := []) (As := [.int a1]) C hW kv_X9_169 10 (by decide) (gL_4 rfl) rfl (k_isPlace l G σ τ a1) ⟨Nat.le_of_ble_eq_true rfl, Nat.le_of_ble_eq_true rfl⟩ ⟨Nat.le_refl _, Nat.le_refl _⟩ rfl hl.1 rfl (Nat.le_of_ble_eq_true rfl) dX9_tells_22 (fun H locs hW => ?_)
    refine lv_if_eq (tgt := 42) hx hb dX9_tells_25 (by decide) (fun c_2 => ?_) (fun c_2 => ?_)
    · skip
      replace c_2 : (kIs a1 (σ 10 0)) = false := bI_eq0.mp c_2
      refine lv_iconst (v := (-1)) hx hb dX9_tells_42 (by decide) ?_
      exact g_iret C hr hlk hW dX9_tells_43 (by rw [if_neg (by simp [c_1, c_2])]) (rfl) (rfl)
    · skip
      replace c_2 : (kIs a1 (σ 10 0)) = true := bI_ne0.mp c_2
      refine lv_aload_n hx hb dX9_tells_28 rfl (lv_at hl 0 rfl) ?_
      refine gf_X9_19 C hW (by decide) rfl dX9_tells_29 ?_
      refine gf_X9_105 C hW (by decide) rfl dX9_tells_32 ?_
      refine lv_iload_n hx hb dX9_tells_35 rfl (lv_at hl 3 rfl) ?_
      refine g_callvI (r := bI (kIs a2 (σ 10 0))) (σ' := σ) (rest := []) (As := [.int a2]) C hW kv_X9_169 10 (by decide) (gL_4 rfl) rfl (k_isPlace l G σ τ a2) ⟨Nat.le_of_ble_eq_true rfl, Nat.le_of_ble_eq_true rfl⟩ ⟨Nat.le_refl _, Nat.le_refl _⟩ rfl hl.1 rfl (Nat.le_of_ble_eq_true rfl) dX9_tells_36 (fun H locs hW => ?_)
      refine lv_if_ne (tgt := 44) hx hb dX9_tells_39 (by decide) (fun c_3 => ?_) (fun c_3 => ?_)
      · skip
        replace c_3 : (kIs a2 (σ 10 0)) = true := bI_ne0.mp c_3
        refine lv_aload_n hx hb dX9_tells_44 rfl (lv_at hl 0 rfl) ?_
        refine gf_X9_19 C hW (by decide) rfl dX9_tells_45 ?_
        refine lv_iload_n hx hb dX9_tells_48 rfl (lv_at hl 1 rfl) ?_
        refine lv_iload_n hx hb dX9_tells_49 rfl (lv_at hl 2 rfl) ?_
        refine lv_iload_n hx hb dX9_tells_50 rfl (lv_at hl 3 rfl) ?_
        refine g_callvI (r := rFirst (fun m => !(sRungAt σ a1 a0 (nI m) D == sRungAt σ a2 a0 (nI m) D)) 240 0) (σ' := σ) (rest := []) (As := [.int a0, .int a1, .int a2]) C hW kv_X9_230 9 (by decide) (gL_0 rfl) rfl (k_firstUnlike l G σ τ a0 a1 a2 D hD hD8) ⟨Nat.le_of_ble_eq_true rfl, Nat.le_of_ble_eq_true rfl⟩ ⟨Nat.le_refl _, Nat.le_refl _⟩ rfl hl.1 rfl (Nat.le_of_ble_eq_true rfl) dX9_tells_51 (fun H locs hW => ?_)
        exact g_iret C hr hlk hW dX9_tells_54 (by rw [if_pos ⟨c_1, c_2, c_3⟩]) (rfl) (rfl)
      · skip
        replace c_3 : (kIs a2 (σ 10 0)) = false := bI_eq0.mp c_3
        refine lv_iconst (v := (-1)) hx hb dX9_tells_42 (by decide) ?_
        exact g_iret C hr hlk hW dX9_tells_43 (by rw [if_neg (by simp [c_1, c_2, c_3])]) (rfl) (rfl)
set_option maxHeartbeats 4000000 in
set_option maxRecDepth 100000 in
theorem k_odds (l : Launch) (G : gG) (σ : gSt) (τ : Nat → Int64) (a0 a1 a2 a3 : Int32) (D : Nat) (hD : σ 10 2 = nI D) (hD8 : D ≤ 8) (N : Nat) (hN : σ 10 1 = nI N) (hN5 : N ≤ 5) : gI l yX9_odds cX9_odds 9 (some .int) 3 67 G [.ref (gAd G 0), .int a0, .int a1, .int a2, .int a3] σ τ (if (kIs a0 (σ 10 1) = true ∧ kIs a1 240 = true ∧ ¬ a2 < 0 ∧ ¬ 10 < a2 ∧ (decide (a3 = 0) || decide (a3 = 1)) = true) then (if a3 = 0 then nI ((10 ^ sMiss σ a0 a1 (σ 11 a0.toNatClampNeg) D - a2.toNatClampNeg ^ sMiss σ a0 a1 (σ 11 a0.toNatClampNeg) D) / Nat.gcd (10 ^ sMiss σ a0 a1 (σ 11 a0.toNatClampNeg) D) (10 ^ sMiss σ a0 a1 (σ 11 a0.toNatClampNeg) D - a2.toNatClampNeg ^ sMiss σ a0 a1 (σ 11 a0.toNatClampNeg) D)) else nI ((10 ^ sMiss σ a0 a1 (σ 11 a0.toNatClampNeg) D) / Nat.gcd (10 ^ sMiss σ a0 a1 (σ 11 a0.toNatClampNeg) D) (10 ^ sMiss σ a0 a1 (σ 11 a0.toNatClampNeg) D - a2.toNatClampNeg ^ sMiss σ a0 a1 (σ 11 a0.toNatClampNeg) D))) else -1) σ τ := by
  refine gMet_of (by decide) (Nat.le_of_ble_eq_true rfl) ?_
  intro p e s m args below meth c C hr hlk ls hl hW
  have hx := C.1
  have hb := C.2.1
  have hl : lv_has ls 9 [(0, .ref (gAd G 0)), (1, .int a0), (2, .int a1), (3, .int a2), (4, .int a3)] := hl
  refine lv_aload_n hx hb dX9_odds_0 rfl (lv_at hl 0 rfl) ?_
  refine gf_X9_19 C hW (by decide) rfl dX9_odds_1 ?_
  refine gf_X9_105 C hW (by decide) rfl dX9_odds_4 ?_
  refine lv_iload_n hx hb dX9_odds_7 rfl (lv_at hl 1 rfl) ?_
  refine g_callvI (r := bI (kIs a0 (σ 10 1))) (σ' := σ) (rest := []) (As := [.int a0]) C hW kv_X9_108 10 (by decide) (gL_4 rfl) rfl (k_isPerson l G σ τ a0) ⟨Nat.le_of_ble_eq_true rfl, Nat.le_of_ble_eq_true rfl⟩ ⟨Nat.le_refl _, Nat.le_refl _⟩ rfl hl.1 rfl (Nat.le_of_ble_eq_true rfl) dX9_odds_8 (fun H locs hW => ?_)
  refine lv_if_eq (tgt := 39) hx hb dX9_odds_11 (by decide) (fun c_1 => ?_) (fun c_1 => ?_)
  · skip
    replace c_1 : (kIs a0 (σ 10 1)) = false := bI_eq0.mp c_1
    refine lv_iconst (v := (-1)) hx hb dX9_odds_39 (by decide) ?_
    exact g_iret C hr hlk hW dX9_odds_40 (by rw [if_neg (by simp [c_1])]) (rfl) (rfl)
  · skip
    replace c_1 : (kIs a0 (σ 10 1)) = true := bI_ne0.mp c_1
    refine lv_iload_n hx hb dX9_odds_14 rfl (lv_at hl 2 rfl) ?_
    refine g_callsI (r := bI (kIs a1 240)) (σ' := σ) (rest := []) (As := [.int a1]) C hW ks_X9_217 (k_isMinute l G σ τ a1) ⟨Nat.le_of_ble_eq_true rfl, Nat.le_of_ble_eq_true rfl⟩ ⟨Nat.le_refl _, Nat.le_refl _⟩ rfl hl.1 rfl (Nat.le_of_ble_eq_true rfl) dX9_odds_15 (fun H locs hW => ?_)
    refine lv_if_eq (tgt := 39) hx hb dX9_odds_18 (by decide) (fun c_2 => ?_) (fun c_2 => ?_)
    · skip
      replace c_2 : (kIs a1 240) = false := bI_eq0.mp c_2
      refine lv_iconst (v := (-1)) hx hb dX9_odds_39 (by decide) ?_
      exact g_iret C hr hlk hW dX9_odds_40 (by rw [if_neg (by simp [c_1, c_2])]) (rfl) (rfl)
    · skip
      replace c_2 : (kIs a1 240) = true := bI_ne0.mp c_2
      refine lv_iload_n hx hb dX9_odds_21 rfl (lv_at hl 3 rfl) ?_
      refine lv_if_lt (tgt := 39) hx hb dX9_odds_22 (by decide) (fun c_3 => ?_) (fun c_3 => ?_)
      · skip
        refine lv_iconst (v := (-1)) hx hb dX9_odds_39 (by decide) ?_
        exact g_iret C hr hlk hW dX9_odds_40 (by rw [if_neg (by simp [c_1, c_2, c_3])]) (rfl) (rfl)
      · skip
        refine lv_iload_n hx hb dX9_odds_25 rfl (lv_at hl 3 rfl) ?_
        refine lv_bipush (v := 10) hx hb dX9_odds_26 (by decide) ?_
        refine lv_icmp_gt (tgt := 39) hx hb dX9_odds_28 (by decide) (fun c_4 => ?_) (fun c_4 => ?_)
        · skip
          refine lv_iconst (v := (-1)) hx hb dX9_odds_39 (by decide) ?_
          exact g_iret C hr hlk hW dX9_odds_40 (by rw [if_neg (by simp [c_1, c_2, c_3, c_4])]) (rfl) (rfl)
        · skip
          refine lv_iload hx hb dX9_odds_31 (lv_at hl 4 rfl) ?_
          refine g_callsI (r := bI (decide (a3 = 0) || decide (a3 = 1))) (σ' := σ) (rest := []) (As := [.int a3]) C hW ks_X9_182 (k_isBit l G σ τ a3) ⟨Nat.le_of_ble_eq_true rfl, Nat.le_of_ble_eq_true rfl⟩ ⟨Nat.le_refl _, Nat.le_refl _⟩ rfl hl.1 rfl (Nat.le_of_ble_eq_true rfl) dX9_odds_33 (fun H locs hW => ?_)
          refine lv_if_ne (tgt := 41) hx hb dX9_odds_36 (by decide) (fun c_5 => ?_) (fun c_5 => ?_)
          · skip
            replace c_5 : (decide (a3 = 0) || decide (a3 = 1)) = true := bI_ne0.mp c_5
            have hp0 := c_1
            rw [hN] at hp0
            have hp := kIs_nat hp0 (by omega)
            have hq := i10 c_3 c_4
            have hc : sMiss σ a0 a1 (σ 11 a0.toNatClampNeg) D ≤ 8 := Nat.le_trans (kMiss_le D) hD8
            have hc3 : a2.toNatClampNeg ^ sMiss σ a0 a1 (σ 11 a0.toNatClampNeg) D ≤ 10 ^ sMiss σ a0 a1 (σ 11 a0.toNatClampNeg) D := Nat.pow_le_pow_left (by omega) _
            have hc2 : 10 ^ sMiss σ a0 a1 (σ 11 a0.toNatClampNeg) D ≤ 100000000 := Nat.le_trans (Nat.pow_le_pow_right (by decide) hc) (by decide)
            have hc0 : 1 ≤ 10 ^ sMiss σ a0 a1 (σ 11 a0.toNatClampNeg) D := Nat.pow_pos (by decide)
            have hc4 : 0 < Nat.gcd (10 ^ sMiss σ a0 a1 (σ 11 a0.toNatClampNeg) D) (10 ^ sMiss σ a0 a1 (σ 11 a0.toNatClampNeg) D - a2.toNatClampNeg ^ sMiss σ a0 a1 (σ 11 a0.toNatClampNeg) D) := Nat.gcd_pos_of_pos_left _ hc0
            have hc5 : Nat.gcd (10 ^ sMiss σ a0 a1 (σ 11 a0.toNatClampNeg) D) (10 ^ sMiss σ a0 a1 (σ 11 a0.toNatClampNeg) D - a2.toNatClampNeg ^ sMiss σ a0 a1 (σ 11 a0.toNatClampNeg) D) < 2 ^ 31 := Nat.lt_of_le_of_lt (Nat.gcd_le_left _ hc0) (Nat.lt_of_le_of_lt hc2 (by decide))
            have hcu : (10 ^ sMiss σ a0 a1 (σ 11 a0.toNatClampNeg) D - a2.toNatClampNeg ^ sMiss σ a0 a1 (σ 11 a0.toNatClampNeg) D) ≤ 10 ^ sMiss σ a0 a1 (σ 11 a0.toNatClampNeg) D := Nat.sub_le _ _
            have hpw : kPow a2 (sMiss σ a0 a1 (σ 11 a0.toNatClampNeg) D) = nI (a2.toNatClampNeg ^ sMiss σ a0 a1 (σ 11 a0.toNatClampNeg) D) := by
                    have e := kPow_nat (b := a2.toNatClampNeg) (sMiss σ a0 a1 (σ 11 a0.toNatClampNeg) D)
                    rw [← hq.1] at e
                    exact e
            refine lv_aload_n hx hb dX9_odds_41 rfl (lv_at hl 0 rfl) ?_
            refine gf_X9_19 C hW (by decide) rfl dX9_odds_42 ?_
            refine lv_iload_n hx hb dX9_odds_45 rfl (lv_at hl 1 rfl) ?_
            refine lv_iload_n hx hb dX9_odds_46 rfl (lv_at hl 2 rfl) ?_
            refine g_callvI (r := nI (sMiss σ a0 a1 (σ 11 a0.toNatClampNeg) D)) (σ' := σ) (rest := []) (As := [.int a0, .int a1]) C hW kv_X9_234 9 (by decide) (gL_0 rfl) rfl (k_missedAtHome l G σ τ a0 a1 a0.toNatClampNeg hp.1 (by omega) D hD hD8) ⟨Nat.le_of_ble_eq_true rfl, Nat.le_of_ble_eq_true rfl⟩ ⟨Nat.le_refl _, Nat.le_refl _⟩ rfl hl.1 rfl (Nat.le_of_ble_eq_true rfl) dX9_odds_47 (fun H locs hW => ?_)
            refine lv_istore (lv' := [(5, .int (nI (sMiss σ a0 a1 (σ 11 a0.toNatClampNeg) D))), (0, .ref (gAd G 0)), (1, .int a0), (2, .int a1), (3, .int a2), (4, .int a3)]) hx hb dX9_odds_50 hl (by decide) rfl (fun ls hl => ?_)
            refine lv_bipush (v := 10) hx hb dX9_odds_52 (by decide) ?_
            refine lv_iload hx hb dX9_odds_54 (lv_at hl 0 rfl) ?_
            refine g_callsI (r := kPow 10 (sMiss σ a0 a1 (σ 11 a0.toNatClampNeg) D)) (σ' := σ) (rest := []) (As := [.int 10, .int (nI (sMiss σ a0 a1 (σ 11 a0.toNatClampNeg) D))]) C hW ks_X9_237 (k_power l G σ τ 10 (nI (sMiss σ a0 a1 (σ 11 a0.toNatClampNeg) D)) (sMiss σ a0 a1 (σ 11 a0.toNatClampNeg) D) rfl hc) ⟨Nat.le_of_ble_eq_true rfl, Nat.le_of_ble_eq_true rfl⟩ ⟨Nat.le_refl _, Nat.le_refl _⟩ rfl hl.1 rfl (Nat.le_of_ble_eq_true rfl) dX9_odds_56 (fun H locs hW => ?_)
            refine lv_istore (lv' := [(6, .int (kPow 10 (sMiss σ a0 a1 (σ 11 a0.toNatClampNeg) D))), (5, .int (nI (sMiss σ a0 a1 (σ 11 a0.toNatClampNeg) D))), (0, .ref (gAd G 0)), (1, .int a0), (2, .int a1), (3, .int a2), (4, .int a3)]) hx hb dX9_odds_59 hl (by decide) rfl (fun ls hl => ?_)
            refine lv_iload hx hb dX9_odds_61 (lv_at hl 0 rfl) ?_
            refine lv_iload_n hx hb dX9_odds_63 rfl (lv_at hl 5 rfl) ?_
            refine lv_iload hx hb dX9_odds_64 (lv_at hl 1 rfl) ?_
            refine g_callsI (r := kPow a2 (sMiss σ a0 a1 (σ 11 a0.toNatClampNeg) D)) (σ' := σ) (rest := [.int (kPow 10 (sMiss σ a0 a1 (σ 11 a0.toNatClampNeg) D))]) (As := [.int a2, .int (nI (sMiss σ a0 a1 (σ 11 a0.toNatClampNeg) D))]) C hW ks_X9_237 (k_power l G σ τ a2 (nI (sMiss σ a0 a1 (σ 11 a0.toNatClampNeg) D)) (sMiss σ a0 a1 (σ 11 a0.toNatClampNeg) D) rfl hc) ⟨Nat.le_of_ble_eq_true rfl, Nat.le_of_ble_eq_true rfl⟩ ⟨Nat.le_refl _, Nat.le_refl _⟩ rfl hl.1 rfl (Nat.le_of_ble_eq_true rfl) dX9_odds_66 (fun H locs hW => ?_)
            refine lv_isub hx hb dX9_odds_69 ?_
            refine lv_istore (lv' := [(7, .int ((kPow 10 (sMiss σ a0 a1 (σ 11 a0.toNatClampNeg) D)) - (kPow a2 (sMiss σ a0 a1 (σ 11 a0.toNatClampNeg) D)))), (6, .int (kPow 10 (sMiss σ a0 a1 (σ 11 a0.toNatClampNeg) D))), (5, .int (nI (sMiss σ a0 a1 (σ 11 a0.toNatClampNeg) D))), (0, .ref (gAd G 0)), (1, .int a0), (2, .int a1), (3, .int a2), (4, .int a3)]) hx hb dX9_odds_70 hl (by decide) rfl (fun ls hl => ?_)
            refine lv_iload hx hb dX9_odds_72 (lv_at hl 1 rfl) ?_
            refine lv_iload hx hb dX9_odds_74 (lv_at hl 0 rfl) ?_
            refine g_callsI (r := nI (Nat.gcd (10 ^ sMiss σ a0 a1 (σ 11 a0.toNatClampNeg) D) (10 ^ sMiss σ a0 a1 (σ 11 a0.toNatClampNeg) D - a2.toNatClampNeg ^ sMiss σ a0 a1 (σ 11 a0.toNatClampNeg) D))) (σ' := σ) (rest := []) (As := [.int (kPow 10 (sMiss σ a0 a1 (σ 11 a0.toNatClampNeg) D)), .int ((kPow 10 (sMiss σ a0 a1 (σ 11 a0.toNatClampNeg) D)) - (kPow a2 (sMiss σ a0 a1 (σ 11 a0.toNatClampNeg) D)))]) C hW ks_X9_240 (k_gd l G σ τ (kPow 10 (sMiss σ a0 a1 (σ 11 a0.toNatClampNeg) D)) ((kPow 10 (sMiss σ a0 a1 (σ 11 a0.toNatClampNeg) D)) - (kPow a2 (sMiss σ a0 a1 (σ 11 a0.toNatClampNeg) D))) (10 ^ sMiss σ a0 a1 (σ 11 a0.toNatClampNeg) D) ((10 ^ sMiss σ a0 a1 (σ 11 a0.toNatClampNeg) D) - (a2.toNatClampNeg ^ sMiss σ a0 a1 (σ 11 a0.toNatClampNeg) D)) (kPow_nat (b := 10) (sMiss σ a0 a1 (σ 11 a0.toNatClampNeg) D)) (gsub (kPow_nat (b := 10) (sMiss σ a0 a1 (σ 11 a0.toNatClampNeg) D)) (show kPow a2 (sMiss σ a0 a1 (σ 11 a0.toNatClampNeg) D) = nI (a2.toNatClampNeg ^ sMiss σ a0 a1 (σ 11 a0.toNatClampNeg) D) from hpw) hc3) hc0 hc2 hcu) ⟨Nat.le_of_ble_eq_true rfl, Nat.le_of_ble_eq_true rfl⟩ ⟨Nat.le_refl _, Nat.le_refl _⟩ rfl hl.1 rfl (Nat.le_of_ble_eq_true rfl) dX9_odds_76 (fun H locs hW => ?_)
            refine lv_istore (lv' := [(8, .int (nI (Nat.gcd (10 ^ sMiss σ a0 a1 (σ 11 a0.toNatClampNeg) D) (10 ^ sMiss σ a0 a1 (σ 11 a0.toNatClampNeg) D - a2.toNatClampNeg ^ sMiss σ a0 a1 (σ 11 a0.toNatClampNeg) D)))), (7, .int ((kPow 10 (sMiss σ a0 a1 (σ 11 a0.toNatClampNeg) D)) - (kPow a2 (sMiss σ a0 a1 (σ 11 a0.toNatClampNeg) D)))), (6, .int (kPow 10 (sMiss σ a0 a1 (σ 11 a0.toNatClampNeg) D))), (5, .int (nI (sMiss σ a0 a1 (σ 11 a0.toNatClampNeg) D))), (0, .ref (gAd G 0)), (1, .int a0), (2, .int a1), (3, .int a2), (4, .int a3)]) hx hb dX9_odds_79 hl (by decide) rfl (fun ls hl => ?_)
            refine lv_iload hx hb dX9_odds_81 (lv_at hl 8 rfl) ?_
            refine lv_if_ne (tgt := 91) hx hb dX9_odds_83 (by decide) (fun c_6 => ?_) (fun c_6 => ?_)
            · skip
              refine lv_iload hx hb dX9_odds_91 (lv_at hl 2 rfl) ?_
              refine lv_iload hx hb dX9_odds_93 (lv_at hl 0 rfl) ?_
              refine lv_idiv hx hb dX9_odds_95 (nI_ne0 hc4 hc5) ?_
              exact g_iret C hr hlk hW dX9_odds_96 (by rw [if_pos ⟨c_1, c_2, c_3, c_4, c_5⟩, if_neg c_6, show kPow 10 (sMiss σ a0 a1 (σ 11 a0.toNatClampNeg) D) = nI (10 ^ sMiss σ a0 a1 (σ 11 a0.toNatClampNeg) D) from kPow_nat (b := 10) _, pk_div (by omega) hc4 hc5]) (rfl) (rfl)
            · skip
              refine lv_iload hx hb dX9_odds_86 (lv_at hl 1 rfl) ?_
              refine lv_goto (tgt := 93) hx hb dX9_odds_88 (by decide) ?_
              refine lv_iload hx hb dX9_odds_93 (lv_at hl 0 rfl) ?_
              refine lv_idiv hx hb dX9_odds_95 (nI_ne0 hc4 hc5) ?_
              exact g_iret C hr hlk hW dX9_odds_96 (by rw [if_pos ⟨c_1, c_2, c_3, c_4, c_5⟩, if_pos c_6, gsub (show kPow 10 (sMiss σ a0 a1 (σ 11 a0.toNatClampNeg) D) = nI (10 ^ sMiss σ a0 a1 (σ 11 a0.toNatClampNeg) D) from kPow_nat (b := 10) _) hpw hc3, pk_div (by omega) hc4 hc5]) (rfl) (rfl)
          · skip
            replace c_5 : (decide (a3 = 0) || decide (a3 = 1)) = false := bI_eq0.mp c_5
            refine lv_iconst (v := (-1)) hx hb dX9_odds_39 (by decide) ?_
            exact g_iret C hr hlk hW dX9_odds_40 (by rw [if_neg (by simp [c_1, c_2, c_3, c_4, c_5])]) (rfl) (rfl)
set_option maxHeartbeats 4000000 in
set_option maxRecDepth 100000 in
theorem k_rate (l : Launch) (G : gG) (σ : gSt) (τ : Nat → Int64) (a0 a1 : Int32) (D : Nat) (hD : σ 10 2 = nI D) (hD8 : D ≤ 8) (how : ∀ d, d < D → σ 20 d = nI (σ 20 d).toNatClampNeg ∧ (σ 20 d).toNatClampNeg < 5) : gI l yX9_rate cX9_rate 3 (some .int) 4 90 G [.ref (gAd G 0), .int a0, .int a1] σ τ (if (¬ a0 < 0 ∧ ¬ 6 ≤ a0 ∧ kIs a1 (σ 10 2) = true) then (if a0 = 1 then σ 15 a1.toNatClampNeg + σ 13 a1.toNatClampNeg else if a0 = 2 then (if kBit (σ 16 1) a1 = 1 then σ 15 a1.toNatClampNeg - 7 else σ 15 a1.toNatClampNeg) else if a0 = 3 then 2 * (σ 15 a1.toNatClampNeg + σ 13 a1.toNatClampNeg) else if a0 = 4 then (if kBit (σ 16 1) a1 = 1 then σ 15 a1.toNatClampNeg - 7 else σ 15 a1.toNatClampNeg) + a1 else if a0 = 5 then σ 15 a1.toNatClampNeg + σ 19 (σ 20 a1.toNatClampNeg).toNatClampNeg else σ 15 a1.toNatClampNeg) else -1000000) σ (if (¬ a0 < 0 ∧ ¬ 6 ≤ a0 ∧ kIs a1 (σ 10 2) = true) then (if a0 = 1 then kT (kT τ 10) 1 else if a0 = 2 then kT (kT τ 100) 1 else if a0 = 3 then kT (kT (kT τ 1000) 10) 1 else if a0 = 4 then kT (kT (kT τ 10000) 100) 1 else if a0 = 5 then kT (kT τ 100000) 1 else kT τ 1) else τ) := by
  refine gMet_of (by decide) (Nat.le_of_ble_eq_true rfl) ?_
  intro p e s m args below meth c C hr hlk ls hl hW
  have hx := C.1
  have hb := C.2.1
  have hl : lv_has ls 3 [(0, .ref (gAd G 0)), (1, .int a0), (2, .int a1)] := hl
  refine lv_iload_n hx hb dX9_rate_0 rfl (lv_at hl 1 rfl) ?_
  refine lv_if_lt (tgt := 24) hx hb dX9_rate_1 (by decide) (fun c_1 => ?_) (fun c_1 => ?_)
  · skip
    refine lv_ldc (v := (-1000000)) hx hb C.2.2.2.1 (C.2.2.2.2.1 _ kcn_X9_243) dX9_rate_24 ?_
    exact g_iret C hr hlk hW dX9_rate_26 (by rw [if_neg (by simp [c_1])]) (rfl) (by rw [if_neg (by simp [c_1])])
  · skip
    refine lv_iload_n hx hb dX9_rate_4 rfl (lv_at hl 1 rfl) ?_
    refine lv_bipush (v := 6) hx hb dX9_rate_5 (by decide) ?_
    refine lv_icmp_ge (tgt := 24) hx hb dX9_rate_7 (by decide) (fun c_2 => ?_) (fun c_2 => ?_)
    · skip
      refine lv_ldc (v := (-1000000)) hx hb C.2.2.2.1 (C.2.2.2.2.1 _ kcn_X9_243) dX9_rate_24 ?_
      exact g_iret C hr hlk hW dX9_rate_26 (by rw [if_neg (by simp [c_1, c_2])]) (rfl) (by rw [if_neg (by simp [c_1, c_2])])
    · skip
      refine lv_aload_n hx hb dX9_rate_10 rfl (lv_at hl 0 rfl) ?_
      refine gf_X9_19 C hW (by decide) rfl dX9_rate_11 ?_
      refine gf_X9_105 C hW (by decide) rfl dX9_rate_14 ?_
      refine lv_iload_n hx hb dX9_rate_17 rfl (lv_at hl 2 rfl) ?_
      refine g_callvI (r := bI (kIs a1 (σ 10 2))) (σ' := σ) (rest := []) (As := [.int a1]) C hW kv_X9_141 10 (by decide) (gL_4 rfl) rfl (k_isDuty l G σ τ a1) ⟨Nat.le_of_ble_eq_true rfl, Nat.le_of_ble_eq_true rfl⟩ ⟨Nat.le_refl _, Nat.le_refl _⟩ rfl hl.1 rfl (Nat.le_of_ble_eq_true rfl) dX9_rate_18 (fun H locs hW => ?_)
      refine lv_if_ne (tgt := 27) hx hb dX9_rate_21 (by decide) (fun c_3 => ?_) (fun c_3 => ?_)
      · skip
        replace c_3 : (kIs a1 (σ 10 2)) = true := bI_ne0.mp c_3
        have hp0 := c_3
        rw [hD] at hp0
        have hp := kIs_nat hp0 (by omega)
        have how_ := how _ hp.2
        refine lv_aload_n hx hb dX9_rate_27 rfl (lv_at hl 0 rfl) ?_
        refine gf_X9_54 C hW (by decide) rfl dX9_rate_28 ?_
        refine lv_iload_n hx hb dX9_rate_31 rfl (lv_at hl 1 rfl) ?_
        refine lv_aload_n hx hb dX9_rate_32 rfl (lv_at hl 0 rfl) ?_
        refine gf_X9_19 C hW (by decide) rfl dX9_rate_33 ?_
        refine lv_iload_n hx hb dX9_rate_36 rfl (lv_at hl 2 rfl) ?_
        refine g_callvI (r := if a0 = 1 then σ 15 a1.toNatClampNeg + σ 13 a1.toNatClampNeg else if a0 = 2 then (if kBit (σ 16 1) a1 = 1 then σ 15 a1.toNatClampNeg - 7 else σ 15 a1.toNatClampNeg) else if a0 = 3 then 2 * (σ 15 a1.toNatClampNeg + σ 13 a1.toNatClampNeg) else if a0 = 4 then (if kBit (σ 16 1) a1 = 1 then σ 15 a1.toNatClampNeg - 7 else σ 15 a1.toNatClampNeg) + a1 else if a0 = 5 then σ 15 a1.toNatClampNeg + σ 19 (σ 20 a1.toNatClampNeg).toNatClampNeg else σ 15 a1.toNatClampNeg) (σ' := σ) (τ' := if a0 = 1 then kT (kT τ 10) 1 else if a0 = 2 then kT (kT τ 100) 1 else if a0 = 3 then kT (kT (kT τ 1000) 10) 1 else if a0 = 4 then kT (kT (kT τ 10000) 100) 1 else if a0 = 5 then kT (kT τ 100000) 1 else kT τ 1) (rest := []) (As := [.int a0, .ref (gAd G 9), .int a1]) C hW kv_X9_244 83 (by decide) (gL_5 rfl) rfl (k_as l G σ τ a0 a1 a1.toNatClampNeg hp.1 (by omega) how_) ⟨Nat.le_of_ble_eq_true rfl, Nat.le_of_ble_eq_true rfl⟩ ⟨Nat.le_refl _, Nat.le_refl _⟩ rfl hl.1 rfl (Nat.le_of_ble_eq_true rfl) dX9_rate_37 (fun H locs hW => ?_)
        exact g_iret C hr hlk hW dX9_rate_40 (by rw [if_pos (c := (¬ a0 < 0 ∧ ¬ 6 ≤ a0 ∧ kIs a1 (σ 10 2) = true)) ⟨c_1, c_2, c_3⟩]) (rfl) (by rw [if_pos (c := (¬ a0 < 0 ∧ ¬ 6 ≤ a0 ∧ kIs a1 (σ 10 2) = true)) ⟨c_1, c_2, c_3⟩])
      · skip
        replace c_3 : (kIs a1 (σ 10 2)) = false := bI_eq0.mp c_3
        refine lv_ldc (v := (-1000000)) hx hb C.2.2.2.1 (C.2.2.2.2.1 _ kcn_X9_243) dX9_rate_24 ?_
        exact g_iret C hr hlk hW dX9_rate_26 (by rw [if_neg (by simp [c_1, c_2, c_3])]) (rfl) (by rw [if_neg (by simp [c_1, c_2, c_3])])
set_option maxHeartbeats 4000000 in
set_option maxRecDepth 100000 in
theorem k_keep (l : Launch) (G : gG) (σ : gSt) (τ : Nat → Int64) (a0 : Int32) : gI l yX9_keep cX9_keep 2 (some .int) 2 61 G [.ref (gAd G 0), .int a0] σ τ (if kIs a0 2 = true then kTake σ (84 + 1 + 5 * a0.toNatClampNeg) 16 16 0 else -1) (if kIs a0 2 = true then gu (kTake σ (84 + 1 + 5 * a0.toNatClampNeg) 16) 95 a0.toNatClampNeg 1 else σ) τ := by
  refine gMet_of (by decide) (Nat.le_of_ble_eq_true rfl) ?_
  intro p e s m args below meth c C hr hlk ls hl hW
  have hx := C.1
  have hb := C.2.1
  have hl : lv_has ls 2 [(0, .ref (gAd G 0)), (1, .int a0)] := hl
  refine lv_iload_n hx hb dX9_keep_0 rfl (lv_at hl 1 rfl) ?_
  refine g_callsI (r := bI (kIs a0 2)) (σ' := σ) (rest := []) (As := [.int a0]) C hW ks_X9_248 (k_isImage l G σ τ a0) ⟨Nat.le_of_ble_eq_true rfl, Nat.le_of_ble_eq_true rfl⟩ ⟨Nat.le_refl _, Nat.le_refl _⟩ rfl hl.1 rfl (Nat.le_of_ble_eq_true rfl) dX9_keep_1 (fun H locs hW => ?_)
  refine lv_if_ne (tgt := 9) hx hb dX9_keep_4 (by decide) (fun c_1 => ?_) (fun c_1 => ?_)
  · skip
    replace c_1 : (kIs a0 2) = true := bI_ne0.mp c_1
    have hp := kIs_nat (N := 2) c_1 (by decide)
    refine lv_aload_n hx hb dX9_keep_9 rfl (lv_at hl 0 rfl) ?_
    refine gf_X9_60 C hW (by decide) rfl dX9_keep_10 ?_
    refine lv_iload_n hx hb dX9_keep_13 rfl (lv_at hl 1 rfl) ?_
    refine g_aald a0.toNatClampNeg C hW (by decide) rfl hp.1 (show a0.toNatClampNeg < 2 by omega) (by decide) dX9_keep_14 ?_
    refine lv_aload_n hx hb dX9_keep_15 rfl (lv_at hl 0 rfl) ?_
    refine gf_X9_19 C hW (by decide) rfl dX9_keep_16 ?_
    refine gf_X9_113 C hW (by decide) rfl dX9_keep_19 ?_
    refine g_callvV (σ' := kTake σ (84 + 1 + 5 * a0.toNatClampNeg) 16) (rest := []) (As := [.ref (gAd G 16)]) C hW kv_X9_251 (84 + 1 + 5 * a0.toNatClampNeg) (gmom_i0 (gmomI a0.toNatClampNeg (by omega))) (gL_3 (gmom_k0 (gmomI a0.toNatClampNeg (by omega)))) rfl (k_take l G σ τ (84 + 1 + 5 * a0.toNatClampNeg) 16 (gmomI a0.toNatClampNeg (by omega)) (gmomL 16 (by decide))) ⟨Nat.le_of_ble_eq_true rfl, Nat.le_of_ble_eq_true rfl⟩ ⟨Nat.le_refl _, Nat.le_refl _⟩ rfl hl.1 rfl (Nat.le_of_ble_eq_true rfl) dX9_keep_22 (fun H locs hW => ?_)
    refine lv_aload_n hx hb dX9_keep_25 rfl (lv_at hl 0 rfl) ?_
    refine gf_X9_65 C hW (by decide) rfl dX9_keep_26 ?_
    refine lv_iload_n hx hb dX9_keep_29 rfl (lv_at hl 1 rfl) ?_
    refine lv_iconst (v := 1) hx hb dX9_keep_30 (by decide) ?_
    refine g_zast a0.toNatClampNeg C hW (by decide) rfl hp.1 (show a0.toNatClampNeg < 2 by omega) (by decide) rfl dX9_keep_31 (fun H locs hW => ?_)
    refine lv_aload_n hx hb dX9_keep_32 rfl (lv_at hl 0 rfl) ?_
    refine gf_X9_19 C hW (by decide) rfl dX9_keep_33 ?_
    refine gf_X9_113 C hW (by decide) rfl dX9_keep_36 ?_
    refine gf_X9_127 (v := (kTake σ (84 + 1 + 5 * a0.toNatClampNeg) 16) 16 0) C hW (by decide) rfl rfl dX9_keep_39 ?_
    exact g_iret C hr hlk hW dX9_keep_42 (by rw [if_pos c_1]) (by rw [if_pos c_1]) (rfl)
  · skip
    replace c_1 : (kIs a0 2) = false := bI_eq0.mp c_1
    refine lv_iconst (v := (-1)) hx hb dX9_keep_7 (by decide) ?_
    exact g_iret C hr hlk hW dX9_keep_8 (by rw [if_neg (bneg c_1)]) (by rw [if_neg (bneg c_1)]) (rfl)
set_option maxHeartbeats 4000000 in
set_option maxRecDepth 100000 in
theorem k_back (l : Launch) (G : gG) (σ : gSt) (τ : Nat → Int64) (a0 : Int32) : gI l yX9_back cX9_back 2 (some .int) 2 61 G [.ref (gAd G 0), .int a0] σ τ (if kIs a0 2 = true then (if σ 95 a0.toNatClampNeg = 0 then -2 else kTake σ 16 (84 + 1 + 5 * a0.toNatClampNeg) 16 0) else -1) (if kIs a0 2 = true then (if σ 95 a0.toNatClampNeg = 0 then σ else gu (kTake σ 16 (84 + 1 + 5 * a0.toNatClampNeg)) 21 1 0) else σ) τ := by
  refine gMet_of (by decide) (Nat.le_of_ble_eq_true rfl) ?_
  intro p e s m args below meth c C hr hlk ls hl hW
  have hx := C.1
  have hb := C.2.1
  have hl : lv_has ls 2 [(0, .ref (gAd G 0)), (1, .int a0)] := hl
  refine lv_iload_n hx hb dX9_back_0 rfl (lv_at hl 1 rfl) ?_
  refine g_callsI (r := bI (kIs a0 2)) (σ' := σ) (rest := []) (As := [.int a0]) C hW ks_X9_248 (k_isImage l G σ τ a0) ⟨Nat.le_of_ble_eq_true rfl, Nat.le_of_ble_eq_true rfl⟩ ⟨Nat.le_refl _, Nat.le_refl _⟩ rfl hl.1 rfl (Nat.le_of_ble_eq_true rfl) dX9_back_1 (fun H locs hW => ?_)
  refine lv_if_ne (tgt := 9) hx hb dX9_back_4 (by decide) (fun c_1 => ?_) (fun c_1 => ?_)
  · skip
    replace c_1 : (kIs a0 2) = true := bI_ne0.mp c_1
    have hp := kIs_nat (N := 2) c_1 (by decide)
    refine lv_aload_n hx hb dX9_back_9 rfl (lv_at hl 0 rfl) ?_
    refine gf_X9_65 C hW (by decide) rfl dX9_back_10 ?_
    refine lv_iload_n hx hb dX9_back_13 rfl (lv_at hl 1 rfl) ?_
    refine g_zald (v := σ 95 a0.toNatClampNeg) a0.toNatClampNeg C hW (by decide) rfl hp.1 (show a0.toNatClampNeg < 2 by omega) (by decide) rfl dX9_back_14 ?_
    refine lv_if_ne (tgt := 21) hx hb dX9_back_15 (by decide) (fun c_2 => ?_) (fun c_2 => ?_)
    · skip
      refine lv_aload_n hx hb dX9_back_21 rfl (lv_at hl 0 rfl) ?_
      refine gf_X9_19 C hW (by decide) rfl dX9_back_22 ?_
      refine gf_X9_113 C hW (by decide) rfl dX9_back_25 ?_
      refine lv_aload_n hx hb dX9_back_28 rfl (lv_at hl 0 rfl) ?_
      refine gf_X9_60 C hW (by decide) rfl dX9_back_29 ?_
      refine lv_iload_n hx hb dX9_back_32 rfl (lv_at hl 1 rfl) ?_
      refine g_aald a0.toNatClampNeg C hW (by decide) rfl hp.1 (show a0.toNatClampNeg < 2 by omega) (by decide) dX9_back_33 ?_
      refine g_callvV (σ' := kTake σ 16 (84 + 1 + 5 * a0.toNatClampNeg)) (rest := []) (As := [.ref (gAd G (84 + 1 + 5 * a0.toNatClampNeg))]) C hW kv_X9_251 16 (by decide) (gL_3 rfl) rfl (k_take l G σ τ 16 (84 + 1 + 5 * a0.toNatClampNeg) (gmomL 16 (by decide)) (gmomI a0.toNatClampNeg (by omega))) ⟨Nat.le_of_ble_eq_true rfl, Nat.le_of_ble_eq_true rfl⟩ ⟨Nat.le_refl _, Nat.le_refl _⟩ rfl hl.1 rfl (Nat.le_of_ble_eq_true rfl) dX9_back_34 (fun H locs hW => ?_)
      refine lv_aload_n hx hb dX9_back_37 rfl (lv_at hl 0 rfl) ?_
      refine gf_X9_26 C hW (by decide) rfl dX9_back_38 ?_
      refine g_callvV (σ' := gu (kTake σ 16 (84 + 1 + 5 * a0.toNatClampNeg)) 21 1 0) (rest := []) (As := []) C hW kv_X9_99 21 (by decide) (gL_2 rfl) rfl (k_lose l G (kTake σ 16 (84 + 1 + 5 * a0.toNatClampNeg)) τ) ⟨Nat.le_of_ble_eq_true rfl, Nat.le_of_ble_eq_true rfl⟩ ⟨Nat.le_refl _, Nat.le_refl _⟩ rfl hl.1 rfl (Nat.le_of_ble_eq_true rfl) dX9_back_41 (fun H locs hW => ?_)
      refine lv_aload_n hx hb dX9_back_44 rfl (lv_at hl 0 rfl) ?_
      refine gf_X9_19 C hW (by decide) rfl dX9_back_45 ?_
      refine gf_X9_113 C hW (by decide) rfl dX9_back_48 ?_
      refine gf_X9_127 (v := (kTake σ 16 (84 + 1 + 5 * a0.toNatClampNeg)) 16 0) C hW (by decide) rfl rfl dX9_back_51 ?_
      exact g_iret C hr hlk hW dX9_back_54 (by rw [if_pos c_1, if_neg c_2]) (by rw [if_pos c_1, if_neg c_2]) (rfl)
    · skip
      refine lv_bipush (v := (-2)) hx hb dX9_back_18 (by decide) ?_
      exact g_iret C hr hlk hW dX9_back_20 (by rw [if_pos c_1, if_pos c_2]) (by rw [if_pos c_1, if_pos c_2]) (rfl)
  · skip
    replace c_1 : (kIs a0 2) = false := bI_eq0.mp c_1
    refine lv_iconst (v := (-1)) hx hb dX9_back_7 (by decide) ?_
    exact g_iret C hr hlk hW dX9_back_8 (by rw [if_neg (bneg c_1)]) (by rw [if_neg (bneg c_1)]) (rfl)
set_option maxHeartbeats 4000000 in
set_option maxRecDepth 100000 in
theorem k_count (l : Launch) (G : gG) (σ : gSt) (τ : Nat → Int64) (a0 : Int32) : gI l yX9_count cX9_count 2 (some .int) 0 0 G [.ref (gAd G 0), .int a0] σ τ (if a0 = 0 then σ 10 0 else if a0 = 1 then σ 10 1 else if a0 = 2 then σ 10 2 else if a0 = 3 then σ 10 3 else if a0 = 4 then σ 10 4 else if a0 = 5 then σ 73 0 else if a0 = 6 then σ 1 1 else -1) σ τ := by
  refine gMet_of (by decide) (Nat.le_of_ble_eq_true rfl) ?_
  intro p e s m args below meth c C hr hlk ls hl hW
  have hx := C.1
  have hb := C.2.1
  have hl : lv_has ls 2 [(0, .ref (gAd G 0)), (1, .int a0)] := hl
  refine lv_iload_n hx hb dX9_count_0 rfl (lv_at hl 1 rfl) ?_
  by_cases c_1 : a0 = 0
  · skip
    refine lv_tableIn (tgt := 44) (off := 43) hx hb dX9_count_1 (by rw [c_1]; decide) (by rw [c_1]; decide) (by rw [c_1]; rfl) (by decide) ?_
    refine lv_aload_n hx hb dX9_count_44 rfl (lv_at hl 0 rfl) ?_
    refine gf_X9_19 C hW (by decide) rfl dX9_count_45 ?_
    refine gf_X9_105 C hW (by decide) rfl dX9_count_48 ?_
    refine gf_X9_254 (v := σ 10 0) C hW (by decide) rfl rfl dX9_count_51 ?_
    exact g_iret C hr hlk hW dX9_count_54 (by rw [if_pos c_1]) (rfl) (rfl)
  by_cases c_2 : a0 = 1
  · skip
    refine lv_tableIn (tgt := 55) (off := 54) hx hb dX9_count_1 (by rw [c_2]; decide) (by rw [c_2]; decide) (by rw [c_2]; rfl) (by decide) ?_
    refine lv_aload_n hx hb dX9_count_55 rfl (lv_at hl 0 rfl) ?_
    refine gf_X9_19 C hW (by decide) rfl dX9_count_56 ?_
    refine gf_X9_105 C hW (by decide) rfl dX9_count_59 ?_
    refine gf_X9_257 (v := σ 10 1) C hW (by decide) rfl rfl dX9_count_62 ?_
    exact g_iret C hr hlk hW dX9_count_65 (by rw [if_neg c_1, if_pos c_2]) (rfl) (rfl)
  by_cases c_3 : a0 = 2
  · skip
    refine lv_tableIn (tgt := 66) (off := 65) hx hb dX9_count_1 (by rw [c_3]; decide) (by rw [c_3]; decide) (by rw [c_3]; rfl) (by decide) ?_
    refine lv_aload_n hx hb dX9_count_66 rfl (lv_at hl 0 rfl) ?_
    refine gf_X9_19 C hW (by decide) rfl dX9_count_67 ?_
    refine gf_X9_105 C hW (by decide) rfl dX9_count_70 ?_
    refine gf_X9_260 (v := σ 10 2) C hW (by decide) rfl rfl dX9_count_73 ?_
    exact g_iret C hr hlk hW dX9_count_76 (by rw [if_neg c_1, if_neg c_2, if_pos c_3]) (rfl) (rfl)
  by_cases c_4 : a0 = 3
  · skip
    refine lv_tableIn (tgt := 77) (off := 76) hx hb dX9_count_1 (by rw [c_4]; decide) (by rw [c_4]; decide) (by rw [c_4]; rfl) (by decide) ?_
    refine lv_aload_n hx hb dX9_count_77 rfl (lv_at hl 0 rfl) ?_
    refine gf_X9_19 C hW (by decide) rfl dX9_count_78 ?_
    refine gf_X9_105 C hW (by decide) rfl dX9_count_81 ?_
    refine gf_X9_263 (v := σ 10 3) C hW (by decide) rfl rfl dX9_count_84 ?_
    exact g_iret C hr hlk hW dX9_count_87 (by rw [if_neg c_1, if_neg c_2, if_neg c_3, if_pos c_4]) (rfl) (rfl)
  by_cases c_5 : a0 = 4
  · skip
    refine lv_tableIn (tgt := 88) (off := 87) hx hb dX9_count_1 (by rw [c_5]; decide) (by rw [c_5]; decide) (by rw [c_5]; rfl) (by decide) ?_
    refine lv_aload_n hx hb dX9_count_88 rfl (lv_at hl 0 rfl) ?_
    refine gf_X9_19 C hW (by decide) rfl dX9_count_89 ?_
    refine gf_X9_105 C hW (by decide) rfl dX9_count_92 ?_
    refine gf_X9_266 (v := σ 10 4) C hW (by decide) rfl rfl dX9_count_95 ?_
    exact g_iret C hr hlk hW dX9_count_98 (by rw [if_neg c_1, if_neg c_2, if_neg c_3, if_neg c_4, if_pos c_5]) (rfl) (rfl)
  by_cases c_6 : a0 = 5
  · skip
    refine lv_tableIn (tgt := 99) (off := 98) hx hb dX9_count_1 (by rw [c_6]; decide) (by rw [c_6]; decide) (by rw [c_6]; rfl) (by decide) ?_
    refine lv_aload_n hx hb dX9_count_99 rfl (lv_at hl 0 rfl) ?_
    refine gf_X9_33 C hW (by decide) rfl dX9_count_100 ?_
    refine gf_X9_224 (v := σ 73 0) C hW (by decide) rfl rfl dX9_count_103 ?_
    exact g_iret C hr hlk hW dX9_count_106 (by rw [if_neg c_1, if_neg c_2, if_neg c_3, if_neg c_4, if_neg c_5, if_pos c_6]) (rfl) (rfl)
  by_cases c_7 : a0 = 6
  · skip
    refine lv_tableIn (tgt := 107) (off := 106) hx hb dX9_count_1 (by rw [c_7]; decide) (by rw [c_7]; decide) (by rw [c_7]; rfl) (by decide) ?_
    refine lv_aload_n hx hb dX9_count_107 rfl (lv_at hl 0 rfl) ?_
    refine gf_X9_10 C hW (by decide) rfl dX9_count_108 ?_
    refine gf_X9_73 (v := σ 1 1) C hW (by decide) rfl rfl dX9_count_111 ?_
    exact g_iret C hr hlk hW dX9_count_114 (by rw [if_neg c_1, if_neg c_2, if_neg c_3, if_neg c_4, if_neg c_5, if_neg c_6, if_pos c_7]) (rfl) (rfl)
  refine lv_tableOut (tgt := 115) hx hb dX9_count_1 (by have t_c_1 := lv_neT c_1 (a := 0) (by decide); have t_c_2 := lv_neT c_2 (a := 1) (by decide); have t_c_3 := lv_neT c_3 (a := 2) (by decide); have t_c_4 := lv_neT c_4 (a := 3) (by decide); have t_c_5 := lv_neT c_5 (a := 4) (by decide); have t_c_6 := lv_neT c_6 (a := 5) (by decide); have t_c_7 := lv_neT c_7 (a := 6) (by decide); omega) (by decide) ?_
  refine lv_iconst (v := (-1)) hx hb dX9_count_115 (by decide) ?_
  exact g_iret C hr hlk hW dX9_count_116 (by rw [if_neg c_1, if_neg c_2, if_neg c_3, if_neg c_4, if_neg c_5, if_neg c_6, if_neg c_7]) (rfl) (rfl)
set_option maxHeartbeats 4000000 in
set_option maxRecDepth 100000 in
theorem k_trace (l : Launch) (G : gG) (σ : gSt) (τ : Nat → Int64) : gJ l yX9_trace cX9_trace 1 (some .long) 0 0 G [.ref (gAd G 0)] σ τ (τ 83) σ τ := by
  refine gMet_of (by decide) (Nat.le_of_ble_eq_true rfl) ?_
  intro p e s m args below meth c C hr hlk ls hl hW
  have hx := C.1
  have hb := C.2.1
  have hl : lv_has ls 1 [(0, .ref (gAd G 0))] := hl
  refine lv_aload_n hx hb dX9_trace_0 rfl (lv_at hl 0 rfl) ?_
  refine gf_X9_54 C hW (by decide) rfl dX9_trace_1 ?_
  refine gf_X9_269 C hW (by decide) rfl dX9_trace_4 ?_
  exact g_lret C hr hlk hW dX9_trace_7 (by simp [bI]) (rfl) (rfl)
