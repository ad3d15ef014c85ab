/-! ===== the reference: one minute, n minutes ===== -/
theorem mNowS_ne {σ : gSt} {c : Nat} (h : c ≠ 96) : mNowS σ c = σ c := gu_ne h
def mMinP (σ : gSt) (set : Int32) : Nat → gSt
  | 0 => σ
  | p + 1 => gu (gu (mMinP σ set p) 104 (10 + p) (mMinP σ set p 104 (10 + p) + ((set >>> (nI p &&& 31)) &&& 1))) 104 (5 + p)
      (gu (mMinP σ set p) 104 (10 + p) (mMinP σ set p 104 (10 + p) + ((set >>> (nI p &&& 31)) &&& 1)) 104 (5 + p) - (if gu (mMinP σ set p) 104 (10 + p) (mMinP σ set p 104 (10 + p) + ((set >>> (nI p &&& 31)) &&& 1)) 104 (5 + p) ≤ 0 then 0 else 1))
theorem mMinP_ne {σ : gSt} {set : Int32} {c : Nat} (h : c ≠ 104) : ∀ p, mMinP σ set p c = σ c
  | 0 => rfl
  | p + 1 => by rw [mMinP, gu_ne h, gu_ne h, mMinP_ne h p]
def mSet (σ : gSt) (D N : Nat) : Int32 := mRings σ (σ 96 25) (σ 104 15) D N
def mMin (σ : gSt) (D N : Nat) : gSt := gu (mMinP σ (mSet σ D N) N) 104 15 (mMinP σ (mSet σ D N) N 104 15 + 1)
theorem mMin_ne {σ : gSt} {D N c : Nat} (h : c ≠ 104) : mMin σ D N c = σ c := by rw [mMin, gu_ne h, mMinP_ne h]
def mPassS (σ : gSt) (D N : Nat) : Nat → gSt
  | 0 => σ
  | k + 1 => mMin (mPassS σ D N k) D N
theorem mPassS_ne {σ : gSt} {D N c : Nat} (h : c ≠ 104) : ∀ k, mPassS σ D N k c = σ c
  | 0 => rfl
  | k + 1 => by rw [mPassS, mMin_ne h, mPassS_ne h k]
def mPassR (σ : gSt) (D N : Nat) : Nat → Int32
  | 0 => 0
  | k + 1 => mPassR σ D N k + mOnes (mSet (mPassS σ D N k) D N) 8
theorem in240 {x : Int32} (h : mIn x 1 240 = true) : x = nI x.toNatClampNeg ∧ x.toNatClampNeg ≤ 240 ∧ 1 ≤ x.toNatClampNeg := by
  simp only [mIn, Bool.and_eq_true, Bool.not_eq_true', decide_eq_false_iff_not] at h
  obtain ⟨h1, h2⟩ := h
  have h0 : ¬ x < 0 := by
    intro q
    refine h1 ?_
    rw [Int32.lt_iff_toInt_lt] at q ⊢
    exact Int.lt_trans q (by decide)
  obtain ⟨j, hj, rfl⟩ := nI_of h0
  rw [nI_clamp hj]
  refine ⟨rfl, ?_, ?_⟩
  · rcases Nat.lt_or_ge 240 j with q | q
    · exact absurd (nI_lt q hj) h2
    · exact q
  · rcases Nat.lt_or_ge j 1 with q | q
    · exact absurd (nI_lt q (by decide)) h1
    · exact q
theorem in1_nat {x : Int32} (h : mIn x 0 1 = true) : x = nI x.toNatClampNeg ∧ x.toNatClampNeg < 2 := mIn_nat (N := 2) h (by decide)
theorem in4_nat {x : Int32} (h : mIn x 0 4 = true) : x = nI x.toNatClampNeg ∧ x.toNatClampNeg < 5 := mIn_nat (N := 5) h (by decide)
theorem mSil_succ (σ : gSt) (set : Int32) (D N mi k : Nat) : mSil σ set D N mi (k + 1) =
    if nI k &&& σ 104 16 = 0 then
      (if (mSil σ set D N mi k).1 = -9 ∨ ¬ mOnes (mSil σ set D N mi k).1 8 ≤ mOnes (nI k) 8 then
        ((if rNone (fun m => decide (set &&& (mRings σ (σ 104 16 ||| nI k) (nI m) D N ^^^ -1) = 0)) (240 - mi) mi = true then nI k else (mSil σ set D N mi k).1), σ 104 16 ||| nI k)
      else mSil σ set D N mi k)
    else mSil σ set D N mi k := rfl
set_option maxHeartbeats 4000000 in
set_option maxRecDepth 100000 in
theorem m_gcd (l : Launch) (G : gG) (σ : gSt) (τ : Nat → Int64) (a0 a1 : Int32) (a b : Nat) (ha : a0 = nI a) (hb_ : a1 = nI b) (ha2 : a < 2 ^ 31) (hb2 : b < 2 ^ 31) : gI l yX10_gcd cX10_gcd 5 (some .int) 0 0 G [.int a0, .int a1] σ τ (nI (Nat.gcd a b)) σ τ := by
  refine gMet_of (by decide) (Nat.le_of_ble_eq_true rfl) ?_
  intro p e s m args below meth c C hr hlk ls hl hW
  have hx := C.1
  have hb := C.2.1
  have hl : lv_has ls 5 [(0, .int a0), (1, .int a1)] := hl
  rw [ha, hb_] at hl
  refine lv_iload_n hx hb dX10_gcd_0 rfl (lv_at hl 0 rfl) ?_
  refine lv_istore_n (lv' := [(2, .int a0), (0, .int a0), (1, .int a1)]) hx hb dX10_gcd_1 rfl hl (by decide) rfl (fun ls hl => ?_)
  refine lv_iload_n hx hb dX10_gcd_2 rfl (lv_at hl 2 rfl) ?_
  refine lv_istore_n (lv' := [(3, .int a1), (2, .int a0), (0, .int a0), (1, .int a1)]) hx hb dX10_gcd_3 rfl hl (by decide) rfl (fun ls hl => ?_)
  have L4 : ∀ (n : Nat) (x_ : Nat) (y_ : Nat) (H : Heap) (locs : List Loc) (ls : Array Slot), y_ ≤ n → Nat.gcd x_ y_ = Nat.gcd a b → x_ < 2 ^ 31 → y_ < 2 ^ 31 → gW G s σ τ H locs → lv_has ls 5 [(3, .int (nI y_)), (2, .int (nI x_)), (0, .int a0), (1, .int a1)] → W p l e (gRm 0 0) s m args below meth c H locs 0 0 (MQ below (gQi G (nI (Nat.gcd a b)) σ τ) args s 0 0 (gA G)) (F0 m 4 ls []) := by
    intro n
    induction n with
    | zero =>
      intro x_ y_ H locs ls hm hg hx31 hy31 hW hl
      refine lv_iload_n hx hb dX10_gcd_4 rfl (lv_at hl 0 rfl) ?_
      refine lv_if_eq (tgt := 21) hx hb dX10_gcd_5 (by decide) (fun _ => ?_) (fun zz => absurd (show nI y_ = 0 from by rw [show y_ = 0 by omega]; rfl) zz)
      refine lv_iload_n hx hb dX10_gcd_21 rfl (lv_at hl 1 rfl) ?_
      exact g_iret C hr hlk hW dX10_gcd_22 (by rw [← hg, show y_ = 0 by omega, Nat.gcd_zero_right]) (rfl) (rfl)
    | succ n ih4 =>
      intro x_ y_ H locs ls hm hg hx31 hy31 hW hl
      refine lv_iload_n hx hb dX10_gcd_4 rfl (lv_at hl 0 rfl) ?_
      refine lv_if_eq (tgt := 21) hx hb dX10_gcd_5 (by decide) (fun c_1 => ?_) (fun c_1 => ?_)
      · skip
        replace c_1 : y_ = 0 := (nI_eq (a := y_) (b := 0) (by omega) (by omega)).mp c_1
        refine lv_iload_n hx hb dX10_gcd_21 rfl (lv_at hl 1 rfl) ?_
        exact g_iret C hr hlk hW dX10_gcd_22 (by rw [← hg, show y_ = 0 by omega, Nat.gcd_zero_right]) (rfl) (rfl)
      · skip
        replace c_1 : ¬ y_ = 0 := mt (nI_eq (a := y_) (b := 0) (by omega) (by omega)).mpr c_1
        refine lv_iload_n hx hb dX10_gcd_8 rfl (lv_at hl 1 rfl) ?_
        refine lv_iload_n hx hb dX10_gcd_9 rfl (lv_at hl 0 rfl) ?_
        refine lv_irem hx hb dX10_gcd_10 (nI_ne0 (by omega) hy31) ?_
        rw [pk_rem hx31 (by omega) hy31]
        refine lv_istore (lv' := [(4, .int (nI (x_ % y_))), (3, .int (nI y_)), (2, .int (nI x_)), (0, .int a0), (1, .int a1)]) hx hb dX10_gcd_11 hl (by decide) rfl (fun ls hl => ?_)
        refine lv_iload_n hx hb dX10_gcd_13 rfl (lv_at hl 1 rfl) ?_
        refine lv_istore_n (lv' := [(2, .int (nI y_)), (4, .int (nI (x_ % y_))), (3, .int (nI y_)), (0, .int a0), (1, .int a1)]) hx hb dX10_gcd_14 rfl hl (by decide) rfl (fun ls hl => ?_)
        refine lv_iload hx hb dX10_gcd_15 (lv_at hl 1 rfl) ?_
        refine lv_istore_n (lv' := [(3, .int (nI (x_ % y_))), (2, .int (nI y_)), (4, .int (nI (x_ % y_))), (0, .int a0), (1, .int a1)]) hx hb dX10_gcd_17 rfl hl (by decide) rfl (fun ls hl => ?_)
        refine lv_goto (tgt := 4) hx hb dX10_gcd_18 (by decide) ?_
        exact ih4 y_ (x_ % y_) _ _ _ (by have := Nat.mod_lt x_ (show 0 < y_ by omega); omega) (by rw [← hg, Nat.gcd_comm y_, ← Nat.gcd_rec, Nat.gcd_comm]) hy31 (by have := Nat.mod_lt x_ (show 0 < y_ by omega); omega) hW (lv_sub hl [0, 1, 3, 4] rfl)
  exact L4 b a b _ _ _ (Nat.le_refl _) rfl ha2 hb2 hW (lv_sub hl [0, 1, 2, 3] rfl)
set_option maxHeartbeats 4000000 in
set_option maxRecDepth 100000 in
theorem m_odds (l : Launch) (G : gG) (σ : gSt) (τ : Nat → Int64) (a0 a1 a2 a3 : Int32) (D : Nat) (hD : σ 98 2 = nI D) (hD8 : D ≤ 8) (N : Nat) (hN : σ 98 1 = nI N) (hN5 : N ≤ 5) : gI l yX10_odds cX10_odds 8 (some .int) 2 43 G [.ref (gAd G 96), .int a0, .int a1, .int a2, .int a3] σ τ (if (mIn a0 0 (σ 98 1 - 1) = true ∧ mIn a1 0 239 = true ∧ mIn a2 0 10 = true ∧ mIn a3 0 1 = true) then (if a3 = 0 then nI ((10 ^ mMiss σ a0 a1 (σ 99 a0.toNatClampNeg) D D - a2.toNatClampNeg ^ mMiss σ a0 a1 (σ 99 a0.toNatClampNeg) D D) / Nat.gcd (10 ^ mMiss σ a0 a1 (σ 99 a0.toNatClampNeg) D D - a2.toNatClampNeg ^ mMiss σ a0 a1 (σ 99 a0.toNatClampNeg) D D) (10 ^ mMiss σ a0 a1 (σ 99 a0.toNatClampNeg) D D)) else nI ((10 ^ mMiss σ a0 a1 (σ 99 a0.toNatClampNeg) D D) / Nat.gcd (10 ^ mMiss σ a0 a1 (σ 99 a0.toNatClampNeg) D D - a2.toNatClampNeg ^ mMiss σ a0 a1 (σ 99 a0.toNatClampNeg) D D) (10 ^ mMiss σ a0 a1 (σ 99 a0.toNatClampNeg) D D))) else -1) (if (mIn a0 0 (σ 98 1 - 1) = true ∧ mIn a1 0 239 = true ∧ mIn a2 0 10 = true ∧ mIn a3 0 1 = true) then gu σ 96 25 (rOddW (σ 104 16) (σ 96 25) D) else σ) τ := by
  refine gMet_of (by decide) (Nat.le_of_ble_eq_true rfl) ?_
  intro p e s m args below meth c C hr hlk ls hl hW
  have hx := C.1
  have hb := C.2.1
  have hl : lv_has ls 8 [(0, .ref (gAd G 96)), (1, .int a0), (2, .int a1), (3, .int a2), (4, .int a3)] := hl
  refine lv_aload_n hx hb dX10_odds_0 rfl (lv_at hl 0 rfl) ?_
  refine lv_iconst (v := 0) hx hb dX10_odds_1 (by decide) ?_
  refine gp_X10_62 C hW (by decide) rfl dX10_odds_2 (fun H locs hW => ?_)
  refine lv_aload_n hx hb dX10_odds_5 rfl (lv_at hl 0 rfl) ?_
  refine lv_iload_n hx hb dX10_odds_6 rfl (lv_at hl 1 rfl) ?_
  refine g_callvI (r := bI (mIn a0 0 (σ 98 1 - 1))) (σ' := σ) (rest := []) (As := [.int a0]) C hW kv_X10_136 96 (by decide) (gL_10 rfl) rfl (m_isPerson l G σ τ a0) ⟨Nat.le_of_ble_eq_true rfl, Nat.le_of_ble_eq_true rfl⟩ ⟨Nat.le_refl _, Nat.le_refl _⟩ rfl hl.1 rfl (Nat.le_of_ble_eq_true rfl) dX10_odds_7 (fun H locs hW => ?_)
  refine lv_if_eq (tgt := 44) hx hb dX10_odds_10 (by decide) (fun c_1 => ?_) (fun c_1 => ?_)
  · skip
    replace c_1 : (mIn a0 0 (σ 98 1 - 1)) = false := bI_eq0.mp c_1
    refine lv_iconst (v := (-1)) hx hb dX10_odds_44 (by decide) ?_
    exact g_iret C hr hlk hW dX10_odds_45 (by simp [c_1]) (by simp [c_1]) (rfl)
  · skip
    replace c_1 : (mIn a0 0 (σ 98 1 - 1)) = true := bI_ne0.mp c_1
    refine lv_iload_n hx hb dX10_odds_13 rfl (lv_at hl 2 rfl) ?_
    refine lv_iconst (v := 0) hx hb dX10_odds_14 (by decide) ?_
    refine lv_sipush (v := 239) hx hb dX10_odds_15 (by decide) ?_
    refine g_callsI (r := bI (mIn a1 0 239)) (σ' := σ) (rest := []) (As := [.int a1, .int 0, .int 239]) C hW ks_X10_66 (m_in l G σ τ a1 0 239) ⟨Nat.le_of_ble_eq_true rfl, Nat.le_of_ble_eq_true rfl⟩ ⟨Nat.le_refl _, Nat.le_refl _⟩ rfl hl.1 rfl (Nat.le_of_ble_eq_true rfl) dX10_odds_18 (fun H locs hW => ?_)
    refine lv_if_eq (tgt := 44) hx hb dX10_odds_21 (by decide) (fun c_2 => ?_) (fun c_2 => ?_)
    · skip
      replace c_2 : (mIn a1 0 239) = false := bI_eq0.mp c_2
      refine lv_iconst (v := (-1)) hx hb dX10_odds_44 (by decide) ?_
      exact g_iret C hr hlk hW dX10_odds_45 (by simp [c_1, c_2]) (by simp [c_1, c_2]) (rfl)
    · skip
      replace c_2 : (mIn a1 0 239) = true := bI_ne0.mp c_2
      refine lv_iload_n hx hb dX10_odds_24 rfl (lv_at hl 3 rfl) ?_
      refine lv_iconst (v := 0) hx hb dX10_odds_25 (by decide) ?_
      refine lv_bipush (v := 10) hx hb dX10_odds_26 (by decide) ?_
      refine g_callsI (r := bI (mIn a2 0 10)) (σ' := σ) (rest := []) (As := [.int a2, .int 0, .int 10]) C hW ks_X10_66 (m_in l G σ τ a2 0 10) ⟨Nat.le_of_ble_eq_true rfl, Nat.le_of_ble_eq_true rfl⟩ ⟨Nat.le_refl _, Nat.le_refl _⟩ rfl hl.1 rfl (Nat.le_of_ble_eq_true rfl) dX10_odds_28 (fun H locs hW => ?_)
      refine lv_if_eq (tgt := 44) hx hb dX10_odds_31 (by decide) (fun c_3 => ?_) (fun c_3 => ?_)
      · skip
        replace c_3 : (mIn a2 0 10) = false := bI_eq0.mp c_3
        refine lv_iconst (v := (-1)) hx hb dX10_odds_44 (by decide) ?_
        exact g_iret C hr hlk hW dX10_odds_45 (by simp [c_1, c_2, c_3]) (by simp [c_1, c_2, c_3]) (rfl)
      · skip
        replace c_3 : (mIn a2 0 10) = true := bI_ne0.mp c_3
        refine lv_iload hx hb dX10_odds_34 (lv_at hl 4 rfl) ?_
        refine lv_iconst (v := 0) hx hb dX10_odds_36 (by decide) ?_
        refine lv_iconst (v := 1) hx hb dX10_odds_37 (by decide) ?_
        refine g_callsI (r := bI (mIn a3 0 1)) (σ' := σ) (rest := []) (As := [.int a3, .int 0, .int 1]) C hW ks_X10_66 (m_in l G σ τ a3 0 1) ⟨Nat.le_of_ble_eq_true rfl, Nat.le_of_ble_eq_true rfl⟩ ⟨Nat.le_refl _, Nat.le_refl _⟩ rfl hl.1 rfl (Nat.le_of_ble_eq_true rfl) dX10_odds_38 (fun H locs hW => ?_)
        refine lv_if_ne (tgt := 46) hx hb dX10_odds_41 (by decide) (fun c_4 => ?_) (fun c_4 => ?_)
        · skip
          replace c_4 : (mIn a3 0 1) = true := bI_ne0.mp c_4
          have hp0 := c_1
          rw [hN] at hp0
          have hp := mIn_nat (N := N) hp0 (by omega)
          have hq := mIn_nat (N := 11) c_3 (by decide)
          refine lv_iconst (v := 1) hx hb dX10_odds_46 (by decide) ?_
          refine lv_istore (lv' := [(5, .int 1), (0, .ref (gAd G 96)), (1, .int a0), (2, .int a1), (3, .int a2), (4, .int a3)]) hx hb dX10_odds_47 hl (by decide) rfl (fun ls hl => ?_)
          refine lv_iconst (v := 1) hx hb dX10_odds_49 (by decide) ?_
          refine lv_istore (lv' := [(6, .int 1), (5, .int 1), (0, .ref (gAd G 96)), (1, .int a0), (2, .int a1), (3, .int a2), (4, .int a3)]) hx hb dX10_odds_50 hl (by decide) rfl (fun ls hl => ?_)
          refine lv_iconst (v := 0) hx hb dX10_odds_52 (by decide) ?_
          refine lv_istore (lv' := [(7, .int 0), (6, .int 1), (5, .int 1), (0, .ref (gAd G 96)), (1, .int a0), (2, .int a1), (3, .int a2), (4, .int a3)]) hx hb dX10_odds_53 hl (by decide) rfl (fun ls hl => ?_)
          have L55 : ∀ (n : Nat) (d : Nat) (v : Int32) (w : Int32) (H : Heap) (locs : List Loc) (ls : Array Slot), n + d = D → v = (nI (10 ^ mMiss σ a0 a1 (σ 99 a0.toNatClampNeg) D d)) → w = (nI (a2.toNatClampNeg ^ mMiss σ a0 a1 (σ 99 a0.toNatClampNeg) D d)) → gW G s (gu σ 96 25 (rOddW (σ 104 16) (σ 96 25) d)) τ H locs → lv_has ls 8 [(7, .int (nI d)), (6, .int w), (5, .int v), (0, .ref (gAd G 96)), (1, .int a0), (2, .int a1), (3, .int a2), (4, .int a3)] → W p l e (gRm 2 43) s m args below meth c H locs 0 0 (MQ below (gQi G (if (mIn a0 0 (σ 98 1 - 1) = true ∧ mIn a1 0 239 = true ∧ mIn a2 0 10 = true ∧ mIn a3 0 1 = true) then (if a3 = 0 then nI ((10 ^ mMiss σ a0 a1 (σ 99 a0.toNatClampNeg) D D - a2.toNatClampNeg ^ mMiss σ a0 a1 (σ 99 a0.toNatClampNeg) D D) / Nat.gcd (10 ^ mMiss σ a0 a1 (σ 99 a0.toNatClampNeg) D D - a2.toNatClampNeg ^ mMiss σ a0 a1 (σ 99 a0.toNatClampNeg) D D) (10 ^ mMiss σ a0 a1 (σ 99 a0.toNatClampNeg) D D)) else nI ((10 ^ mMiss σ a0 a1 (σ 99 a0.toNatClampNeg) D D) / Nat.gcd (10 ^ mMiss σ a0 a1 (σ 99 a0.toNatClampNeg) D D - a2.toNatClampNeg ^ mMiss σ a0 a1 (σ 99 a0.toNatClampNeg) D D) (10 ^ mMiss σ a0 a1 (σ 99 a0.toNatClampNeg) D D))) else -1) (if (mIn a0 0 (σ 98 1 - 1) = true ∧ mIn a1 0 239 = true ∧ mIn a2 0 10 = true ∧ mIn a3 0 1 = true) then gu σ 96 25 (rOddW (σ 104 16) (σ 96 25) D) else σ) τ) args s 0 0 (gA G)) (F0 m 55 ls []) := by
            intro n
            induction n with
            | zero =>
              intro d v w H locs ls hm hv hw hW hl
              refine lv_iload hx hb dX10_odds_55 (lv_at hl 0 rfl) ?_
              refine lv_aload_n hx hb dX10_odds_57 rfl (lv_at hl 3 rfl) ?_
              refine gf_X10_13 C hW (by decide) rfl dX10_odds_58 ?_
              refine lv_iconst (v := 2) hx hb dX10_odds_61 (by decide) ?_
              refine g_ald (v := nI D) 2 C hW (by decide) rfl rfl (by decide) (by decide) hD dX10_odds_62 ?_
              refine lv_icmp_ge (tgt := 122) hx hb dX10_odds_63 (by decide) (fun _ => ?_) (fun zz => absurd (show nI D ≤ nI d from nI_le (by omega) (by omega)) zz)
              have hd : d = D := by omega
              have hv2 : v = nI (10 ^ mMiss σ a0 a1 (σ 99 a0.toNatClampNeg) D D) := by rw [hv, hd]
              have hw2 : w = nI (a2.toNatClampNeg ^ mMiss σ a0 a1 (σ 99 a0.toNatClampNeg) D D) := by rw [hw, hd]
              have hc : mMiss σ a0 a1 (σ 99 a0.toNatClampNeg) D D ≤ 8 := Nat.le_trans (rMiss_le D) hD8
              have hc3 : a2.toNatClampNeg ^ mMiss σ a0 a1 (σ 99 a0.toNatClampNeg) D D ≤ 10 ^ mMiss σ a0 a1 (σ 99 a0.toNatClampNeg) D D := Nat.pow_le_pow_left (by omega) _
              have hc2 : 10 ^ mMiss σ a0 a1 (σ 99 a0.toNatClampNeg) D D < 2 ^ 31 := Nat.lt_of_le_of_lt (Nat.pow_le_pow_right (by decide) hc) (by decide)
              have hc1 : 10 ^ mMiss σ a0 a1 (σ 99 a0.toNatClampNeg) D D - a2.toNatClampNeg ^ mMiss σ a0 a1 (σ 99 a0.toNatClampNeg) D D < 2 ^ 31 := Nat.lt_of_le_of_lt (Nat.sub_le _ _) hc2
              have hc4 : 0 < Nat.gcd (10 ^ mMiss σ a0 a1 (σ 99 a0.toNatClampNeg) D D - a2.toNatClampNeg ^ mMiss σ a0 a1 (σ 99 a0.toNatClampNeg) D D) (10 ^ mMiss σ a0 a1 (σ 99 a0.toNatClampNeg) D D) := Nat.gcd_pos_of_pos_right _ (Nat.pow_pos (by decide))
              have hc5 : Nat.gcd (10 ^ mMiss σ a0 a1 (σ 99 a0.toNatClampNeg) D D - a2.toNatClampNeg ^ mMiss σ a0 a1 (σ 99 a0.toNatClampNeg) D D) (10 ^ mMiss σ a0 a1 (σ 99 a0.toNatClampNeg) D D) < 2 ^ 31 := Nat.lt_of_le_of_lt (Nat.gcd_le_right _ (Nat.pow_pos (by decide))) hc2
              refine lv_iload hx hb dX10_odds_122 (lv_at hl 2 rfl) ?_
              refine lv_iload hx hb dX10_odds_124 (lv_at hl 1 rfl) ?_
              refine lv_isub hx hb dX10_odds_126 ?_
              refine lv_iload hx hb dX10_odds_127 (lv_at hl 2 rfl) ?_
              refine g_callsI (r := nI (Nat.gcd ((10 ^ mMiss σ a0 a1 (σ 99 a0.toNatClampNeg) D D) - (a2.toNatClampNeg ^ mMiss σ a0 a1 (σ 99 a0.toNatClampNeg) D D)) (10 ^ mMiss σ a0 a1 (σ 99 a0.toNatClampNeg) D D))) (σ' := gu σ 96 25 (rOddW (σ 104 16) (σ 96 25) d)) (rest := []) (As := [.int (v - w), .int v]) C hW ks_X10_184 (m_gcd l G (gu σ 96 25 (rOddW (σ 104 16) (σ 96 25) d)) τ (v - w) v ((10 ^ mMiss σ a0 a1 (σ 99 a0.toNatClampNeg) D D) - (a2.toNatClampNeg ^ mMiss σ a0 a1 (σ 99 a0.toNatClampNeg) D D)) (10 ^ mMiss σ a0 a1 (σ 99 a0.toNatClampNeg) D D) (gsub hv2 hw2 hc3) hv2 hc1 hc2) ⟨Nat.le_of_ble_eq_true rfl, Nat.le_of_ble_eq_true rfl⟩ ⟨Nat.le_refl _, Nat.le_refl _⟩ rfl hl.1 rfl (Nat.le_of_ble_eq_true rfl) dX10_odds_129 (fun H locs hW => ?_)
              refine lv_istore (lv' := [(7, .int (nI (Nat.gcd ((10 ^ mMiss σ a0 a1 (σ 99 a0.toNatClampNeg) D D) - (a2.toNatClampNeg ^ mMiss σ a0 a1 (σ 99 a0.toNatClampNeg) D D)) (10 ^ mMiss σ a0 a1 (σ 99 a0.toNatClampNeg) D D)))), (6, .int w), (5, .int v), (0, .ref (gAd G 96)), (1, .int a0), (2, .int a1), (3, .int a2), (4, .int a3)]) hx hb dX10_odds_132 hl (by decide) rfl (fun ls hl => ?_)
              refine lv_iload hx hb dX10_odds_134 (lv_at hl 7 rfl) ?_
              refine lv_if_ne (tgt := 150) hx hb dX10_odds_136 (by decide) (fun c_5 => ?_) (fun c_5 => ?_)
              · skip
                refine lv_iload hx hb dX10_odds_150 (lv_at hl 2 rfl) ?_
                refine lv_iload hx hb dX10_odds_152 (lv_at hl 0 rfl) ?_
                refine lv_idiv hx hb dX10_odds_154 (nI_ne0 hc4 hc5) ?_
                exact g_iret C hr hlk hW dX10_odds_155 (by rw [if_pos ⟨c_1, c_2, c_3, c_4⟩, if_neg c_5, hv2, pk_div hc2 hc4 hc5]) (by rw [if_pos ⟨c_1, c_2, c_3, c_4⟩, hd]) (rfl)
              · skip
                refine lv_iload hx hb dX10_odds_139 (lv_at hl 2 rfl) ?_
                refine lv_iload hx hb dX10_odds_141 (lv_at hl 1 rfl) ?_
                refine lv_isub hx hb dX10_odds_143 ?_
                refine lv_iload hx hb dX10_odds_144 (lv_at hl 0 rfl) ?_
                refine lv_idiv hx hb dX10_odds_146 (nI_ne0 hc4 hc5) ?_
                refine lv_goto (tgt := 155) hx hb dX10_odds_147 (by decide) ?_
                exact g_iret C hr hlk hW dX10_odds_155 (by rw [if_pos ⟨c_1, c_2, c_3, c_4⟩, if_pos c_5, gsub hv2 hw2 hc3, pk_div hc1 hc4 hc5]) (by rw [if_pos ⟨c_1, c_2, c_3, c_4⟩, hd]) (rfl)
            | succ n ih55 =>
              intro d v w H locs ls hm hv hw hW hl
              refine lv_iload hx hb dX10_odds_55 (lv_at hl 0 rfl) ?_
              refine lv_aload_n hx hb dX10_odds_57 rfl (lv_at hl 3 rfl) ?_
              refine gf_X10_13 C hW (by decide) rfl dX10_odds_58 ?_
              refine lv_iconst (v := 2) hx hb dX10_odds_61 (by decide) ?_
              refine g_ald (v := nI D) 2 C hW (by decide) rfl rfl (by decide) (by decide) hD dX10_odds_62 ?_
              refine lv_icmp_ge (tgt := 122) hx hb dX10_odds_63 (by decide) (fun zz => absurd zz (show ¬ nI D ≤ nI d from nI_ge (by omega) (by omega))) (fun _ => ?_)
              refine lv_aload_n hx hb dX10_odds_66 rfl (lv_at hl 3 rfl) ?_
              refine lv_sipush (v := 255) hx hb dX10_odds_67 (by decide) ?_
              refine lv_iconst (v := 1) hx hb dX10_odds_70 (by decide) ?_
              refine lv_iload hx hb dX10_odds_71 (lv_at hl 0 rfl) ?_
              refine lv_ishl hx hb dX10_odds_73 ?_
              refine lv_iconst (v := (-1)) hx hb dX10_odds_74 (by decide) ?_
              refine lv_ixor hx hb dX10_odds_75 ?_
              refine lv_iand hx hb dX10_odds_76 ?_
              refine lv_aload_n hx hb dX10_odds_77 rfl (lv_at hl 3 rfl) ?_
              refine gf_X10_31 C hW (by decide) rfl dX10_odds_78 ?_
              refine lv_bipush (v := 16) hx hb dX10_odds_81 (by decide) ?_
              refine g_ald (v := σ 104 16) 16 C hW (by decide) rfl rfl (by decide) (by decide) rfl dX10_odds_83 ?_
              refine lv_ior hx hb dX10_odds_84 ?_
              refine gp_X10_127 C hW (by decide) rfl dX10_odds_85 (fun H locs hW => ?_)
              refine lv_aload_n hx hb dX10_odds_88 rfl (lv_at hl 3 rfl) ?_
              refine lv_iload_n hx hb dX10_odds_89 rfl (lv_at hl 4 rfl) ?_
              refine lv_iload_n hx hb dX10_odds_90 rfl (lv_at hl 5 rfl) ?_
              refine lv_aload_n hx hb dX10_odds_91 rfl (lv_at hl 3 rfl) ?_
              refine gf_X10_16 C hW (by decide) rfl dX10_odds_92 ?_
              refine lv_iload_n hx hb dX10_odds_95 rfl (lv_at hl 4 rfl) ?_
              refine g_ald (v := σ 99 a0.toNatClampNeg) a0.toNatClampNeg C hW (by decide) rfl hp.1 (show a0.toNatClampNeg < 10 by omega) (by decide) rfl dX10_odds_96 ?_
              refine g_callvI (r := bI (mRung σ ((255 &&& ((1 <<< ((nI d) &&& 31)) ^^^ (-1))) ||| (σ 104 16)) a0 a1 (σ 99 a0.toNatClampNeg) D)) (σ' := gu (gu σ 96 25 (rOddW (σ 104 16) (σ 96 25) d)) 96 25 ((255 &&& ((1 <<< ((nI d) &&& 31)) ^^^ (-1))) ||| (σ 104 16))) (rest := []) (As := [.int a0, .int a1, .int (σ 99 a0.toNatClampNeg)]) C hW kv_X10_133 96 (by decide) (gL_10 rfl) rfl (m_isRung l G (gu (gu σ 96 25 (rOddW (σ 104 16) (σ 96 25) d)) 96 25 ((255 &&& ((1 <<< ((nI d) &&& 31)) ^^^ (-1))) ||| (σ 104 16))) τ a0 a1 (σ 99 a0.toNatClampNeg) D (hD) hD8) ⟨Nat.le_of_ble_eq_true rfl, Nat.le_of_ble_eq_true rfl⟩ ⟨Nat.le_refl _, Nat.le_refl _⟩ rfl hl.1 rfl (Nat.le_of_ble_eq_true rfl) dX10_odds_97 (fun H locs hW => ?_)
              refine lv_if_eq (tgt := 116) hx hb dX10_odds_100 (by decide) (fun c_6 => ?_) (fun c_6 => ?_)
              · skip
                replace c_6 : (mRung σ ((255 &&& ((1 <<< ((nI d) &&& 31)) ^^^ (-1))) ||| (σ 104 16)) a0 a1 (σ 99 a0.toNatClampNeg) D) = false := bI_eq0.mp c_6
                refine lv_iinc (v := nI (d + 1)) (lv' := [(7, .int (nI (d + 1))), (6, .int w), (5, .int v), (0, .ref (gAd G 96)), (1, .int a0), (2, .int a1), (3, .int a2), (4, .int a3)]) hx hb dX10_odds_116 hl (k := 0) rfl (nI_1 _) (by decide) rfl (fun ls hl => ?_)
                refine lv_goto (tgt := 55) hx hb dX10_odds_119 (by decide) ?_
                exact ih55 (d + 1) v w _ _ _ (by omega) (by rw [hv, mMiss, rMiss, if_neg (bneg c_6)]) (by rw [hw, mMiss, rMiss, if_neg (bneg c_6)]) (by rw [gu_gu] at hW; exact hW) (lv_sub hl [0, 1, 2, 3, 4, 5, 6, 7] rfl)
              · skip
                replace c_6 : (mRung σ ((255 &&& ((1 <<< ((nI d) &&& 31)) ^^^ (-1))) ||| (σ 104 16)) a0 a1 (σ 99 a0.toNatClampNeg) D) = true := bI_ne0.mp c_6
                refine lv_iload hx hb dX10_odds_103 (lv_at hl 2 rfl) ?_
                refine lv_bipush (v := 10) hx hb dX10_odds_105 (by decide) ?_
                refine lv_imul hx hb dX10_odds_107 ?_
                refine lv_istore (lv' := [(5, .int (v * 10)), (7, .int (nI d)), (6, .int w), (0, .ref (gAd G 96)), (1, .int a0), (2, .int a1), (3, .int a2), (4, .int a3)]) hx hb dX10_odds_108 hl (by decide) rfl (fun ls hl => ?_)
                refine lv_iload hx hb dX10_odds_110 (lv_at hl 2 rfl) ?_
                refine lv_iload_n hx hb dX10_odds_112 rfl (lv_at hl 6 rfl) ?_
                refine lv_imul hx hb dX10_odds_113 ?_
                refine lv_istore (lv' := [(6, .int (w * a2)), (5, .int (v * 10)), (7, .int (nI d)), (0, .ref (gAd G 96)), (1, .int a0), (2, .int a1), (3, .int a2), (4, .int a3)]) hx hb dX10_odds_114 hl (by decide) rfl (fun ls hl => ?_)
                refine lv_iinc (v := nI (d + 1)) (lv' := [(7, .int (nI (d + 1))), (6, .int (w * a2)), (5, .int (v * 10)), (0, .ref (gAd G 96)), (1, .int a0), (2, .int a1), (3, .int a2), (4, .int a3)]) hx hb dX10_odds_116 hl (k := 2) rfl (nI_1 _) (by decide) rfl (fun ls hl => ?_)
                refine lv_goto (tgt := 55) hx hb dX10_odds_119 (by decide) ?_
                exact ih55 (d + 1) (v * 10) (w * a2) _ _ _ (by omega) (by rw [hv, mMiss, rMiss, if_pos c_6, Nat.pow_succ, ← pk_mul]; rfl) (by rw [hw, mMiss, rMiss, if_pos c_6, Nat.pow_succ, ← pk_mul]; rw [← hq.1]) (by rw [gu_gu] at hW; exact hW) (lv_sub hl [0, 1, 2, 3, 4, 5, 6, 7] rfl)
          exact L55 D 0 1 1 _ _ _ (by omega) (by first | rfl | simp [bI, c_1, c_2, c_3, c_4]) (by first | rfl | simp [bI, c_1, c_2, c_3, c_4]) (by rw [show rOddW (σ 104 16) (σ 96 25) 0 = σ 96 25 from rfl, gu_self]; exact hW) (lv_sub hl [0, 1, 2, 3, 4, 5, 6, 7] rfl)
        · skip
          replace c_4 : (mIn a3 0 1) = false := bI_eq0.mp c_4
          refine lv_iconst (v := (-1)) hx hb dX10_odds_44 (by decide) ?_
          exact g_iret C hr hlk hW dX10_odds_45 (by simp [c_1, c_2, c_3, c_4]) (by simp [c_1, c_2, c_3, c_4]) (rfl)
