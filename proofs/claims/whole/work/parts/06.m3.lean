/-! ===== the reference: one minute, n minutes ===== -/
theorem mNowS_ne {σ : gSt} {c : Nat} (h : c ≠ 96) : mNowS σ c = σ c := gu_ne h
def mMinP (σ : gSt) (set : Int32) : Nat → gSt
  | 0 => σ
  | p + 1 => gu (gu (mMinP σ set p) 104 (10 + p) (mMinP σ set p 104 (10 + p) + ((set >>> (nI p &&& 31)) &&& 1))) 104 (5 + p)
      (gu (mMinP σ set p) 104 (10 + p) (mMinP σ set p 104 (10 + p) + ((set >>> (nI p &&& 31)) &&& 1)) 104 (5 + p) - (if gu (mMinP σ set p) 104 (10 + p) (mMinP σ set p 104 (10 + p) + ((set >>> (nI p &&& 31)) &&& 1)) 104 (5 + p) ≤ 0 then 0 else 1))
theorem mMinP_ne {σ : gSt} {set : Int32} {c : Nat} (h : c ≠ 104) : ∀ p, mMinP σ set p c = σ c
  | 0 => rfl
  | p + 1 => by rw [mMinP, gu_ne h, gu_ne h, mMinP_ne h p]
def mSet (σ : gSt) (D N : Nat) : Int32 := mRings σ (σ 96 25) (σ 104 15) D N
def mMin (σ : gSt) (D N : Nat) : gSt := gu (mMinP σ (mSet σ D N) N) 104 15 (mMinP σ (mSet σ D N) N 104 15 + 1)
theorem mMin_ne {σ : gSt} {D N c : Nat} (h : c ≠ 104) : mMin σ D N c = σ c := by rw [mMin, gu_ne h, mMinP_ne h]
def mPassS (σ : gSt) (D N : Nat) : Nat → gSt
  | 0 => σ
  | k + 1 => mMin (mPassS σ D N k) D N
theorem mPassS_ne {σ : gSt} {D N c : Nat} (h : c ≠ 104) : ∀ k, mPassS σ D N k c = σ c
  | 0 => rfl
  | k + 1 => by rw [mPassS, mMin_ne h, mPassS_ne h k]
def mPassR (σ : gSt) (D N : Nat) : Nat → Int32
  | 0 => 0
  | k + 1 => mPassR σ D N k + mOnes (mSet (mPassS σ D N k) D N) 8
theorem in240 {x : Int32} (h : mIn x 1 240 = true) : x = nI x.toNatClampNeg ∧ x.toNatClampNeg ≤ 240 ∧ 1 ≤ x.toNatClampNeg := by
  simp only [mIn, Bool.and_eq_true, Bool.not_eq_true', decide_eq_false_iff_not] at h
  obtain ⟨h1, h2⟩ := h
  have h0 : ¬ x < 0 := by
    intro q
    refine h1 ?_
    rw [Int32.lt_iff_toInt_lt] at q ⊢
    exact Int.lt_trans q (by decide)
  obtain ⟨j, hj, rfl⟩ := nI_of h0
  rw [nI_clamp hj]
  refine ⟨rfl, ?_, ?_⟩
  · rcases Nat.lt_or_ge 240 j with q | q
    · exact absurd (nI_lt q hj) h2
    · exact q
  · rcases Nat.lt_or_ge j 1 with q | q
    · exact absurd (nI_lt q (by decide)) h1
    · exact q
theorem in1_nat {x : Int32} (h : mIn x 0 1 = true) : x = nI x.toNatClampNeg ∧ x.toNatClampNeg < 2 := mIn_nat (N := 2) h (by decide)
theorem in4_nat {x : Int32} (h : mIn x 0 4 = true) : x = nI x.toNatClampNeg ∧ x.toNatClampNeg < 5 := mIn_nat (N := 5) h (by decide)
theorem mMiss_succ (σ : gSt) (p mi at_ : Int32) (D d : Nat) : mMiss σ p mi at_ D (d + 1) = if mRung σ ((255 : Int32) &&& (((1 : Int32) <<< (nI d &&& 31)) ^^^ -1) ||| σ 104 16) p mi at_ D = true then mMiss σ p mi at_ D d + 1 else mMiss σ p mi at_ D d := rfl
theorem mSil_succ (σ : gSt) (set : Int32) (D N mi k : Nat) : mSil σ set D N mi (k + 1) =
    if nI k &&& σ 104 16 = 0 then
      (if (mSil σ set D N mi k).1 = -9 ∨ ¬ mOnes (mSil σ set D N mi k).1 8 ≤ mOnes (nI k) 8 then
        ((if rNone (fun m => decide (set &&& (mRings σ (σ 104 16 ||| nI k) (nI m) D N ^^^ -1) = 0)) (240 - mi) mi = true then nI k else (mSil σ set D N mi k).1), σ 104 16 ||| nI k)
      else mSil σ set D N mi k)
    else mSil σ set D N mi k := rfl
set_option maxHeartbeats 4000000 in
set_option maxRecDepth 100000 in
theorem m_silence (l : Launch) (G : gG) (σ : gSt) (τ : Nat → Int64) (a0 : Int32) (D : Nat) (hD : σ 98 2 = nI D) (hD8 : D ≤ 8) (N : Nat) (hN : σ 98 1 = nI N) (hN5 : N ≤ 5) (mi : Nat) (hmi : σ 104 15 = nI mi) (hmi2 : mi ≤ 240) : gI l yX10_silence cX10_silence 4 (some .int) 3 71 G [.ref (gAd G 96), .int a0] σ τ (if (mIn a0 0 ((1 <<< (σ 98 1 &&& 31)) - 1) = true ∧ ¬ a0 = 0) then (mSil σ a0 D N mi (2 ^ D)).1 else -1) (if (mIn a0 0 ((1 <<< (σ 98 1 &&& 31)) - 1) = true ∧ ¬ a0 = 0) then gu σ 96 25 (mSil σ a0 D N mi (2 ^ D)).2 else σ) τ := by
  refine gMet_of (by decide) (Nat.le_of_ble_eq_true rfl) ?_
  intro p e s m args below meth c C hr hlk ls hl hW
  have hx := C.1
  have hb := C.2.1
  have hl : lv_has ls 4 [(0, .ref (gAd G 96)), (1, .int a0)] := hl
  have hpow : 2 ^ D ≤ 256 := Nat.le_trans (Nat.pow_le_pow_right (by decide) hD8) (by decide)
  refine lv_aload_n hx hb dX10_silence_0 rfl (lv_at hl 0 rfl) ?_
  refine lv_iconst (v := 0) hx hb dX10_silence_1 (by decide) ?_
  refine gp_X10_62 C hW (by decide) rfl dX10_silence_2 (fun H locs hW => ?_)
  refine lv_aload_n hx hb dX10_silence_5 rfl (lv_at hl 0 rfl) ?_
  refine lv_iload_n hx hb dX10_silence_6 rfl (lv_at hl 1 rfl) ?_
  refine g_callvI (r := bI (mIn a0 0 ((1 <<< (σ 98 1 &&& 31)) - 1))) (σ' := σ) (rest := []) (As := [.int a0]) C hW kv_X10_167 96 (by decide) (gL_10 rfl) rfl (m_isSet l G σ τ a0) ⟨Nat.le_of_ble_eq_true rfl, Nat.le_of_ble_eq_true rfl⟩ ⟨Nat.le_refl _, Nat.le_refl _⟩ rfl hl.1 rfl (Nat.le_of_ble_eq_true rfl) dX10_silence_7 (fun H locs hW => ?_)
  refine lv_if_eq (tgt := 17) hx hb dX10_silence_10 (by decide) (fun c_1 => ?_) (fun c_1 => ?_)
  · skip
    replace c_1 : (mIn a0 0 ((1 <<< (σ 98 1 &&& 31)) - 1)) = false := bI_eq0.mp c_1
    refine lv_iconst (v := (-1)) hx hb dX10_silence_17 (by decide) ?_
    exact g_iret C hr hlk hW dX10_silence_18 (by simp [c_1]) (by simp [c_1]) (rfl)
  · skip
    replace c_1 : (mIn a0 0 ((1 <<< (σ 98 1 &&& 31)) - 1)) = true := bI_ne0.mp c_1
    refine lv_iload_n hx hb dX10_silence_13 rfl (lv_at hl 1 rfl) ?_
    refine lv_if_ne (tgt := 19) hx hb dX10_silence_14 (by decide) (fun c_2 => ?_) (fun c_2 => ?_)
    · skip
      refine lv_bipush (v := (-9)) hx hb dX10_silence_19 (by decide) ?_
      refine lv_istore_n (lv' := [(2, .int (-9)), (0, .ref (gAd G 96)), (1, .int a0)]) hx hb dX10_silence_21 rfl hl (by decide) rfl (fun ls hl => ?_)
      refine lv_iconst (v := 0) hx hb dX10_silence_22 (by decide) ?_
      refine lv_istore_n (lv' := [(3, .int 0), (2, .int (-9)), (0, .ref (gAd G 96)), (1, .int a0)]) hx hb dX10_silence_23 rfl hl (by decide) rfl (fun ls hl => ?_)
      have L24 : ∀ (n : Nat) (k : Nat) (v : Int32) (H : Heap) (locs : List Loc) (ls : Array Slot), n + k = 2 ^ D → v = ((mSil σ a0 D N mi k).1) → gW G s (gu σ 96 25 ((mSil σ a0 D N mi k).2)) τ H locs → lv_has ls 4 [(3, .int (nI k)), (2, .int v), (0, .ref (gAd G 96)), (1, .int a0)] → W p l e (gRm 3 71) s m args below meth c H locs 0 0 (MQ below (gQi G (if (mIn a0 0 ((1 <<< (σ 98 1 &&& 31)) - 1) = true ∧ ¬ a0 = 0) then (mSil σ a0 D N mi (2 ^ D)).1 else -1) (if (mIn a0 0 ((1 <<< (σ 98 1 &&& 31)) - 1) = true ∧ ¬ a0 = 0) then gu σ 96 25 (mSil σ a0 D N mi (2 ^ D)).2 else σ) τ) args s 0 0 (gA G)) (F0 m 24 ls []) := by
        intro n
        induction n with
        | zero =>
          intro k v H locs ls hm hv hW hl
          refine lv_iload_n hx hb dX10_silence_24 rfl (lv_at hl 0 rfl) ?_
          refine lv_iconst (v := 1) hx hb dX10_silence_25 (by decide) ?_
          refine lv_aload_n hx hb dX10_silence_26 rfl (lv_at hl 2 rfl) ?_
          refine gf_X10_13 C hW (by decide) rfl dX10_silence_27 ?_
          refine lv_iconst (v := 2) hx hb dX10_silence_30 (by decide) ?_
          refine g_ald (v := nI D) 2 C hW (by decide) rfl rfl (by decide) (by decide) hD dX10_silence_31 ?_
          refine lv_ishl hx hb dX10_silence_32 ?_
          rw [sh1 D hD8]
          refine lv_icmp_ge (tgt := 98) hx hb dX10_silence_33 (by decide) (fun _ => ?_) (fun zz => absurd (show nI (2 ^ D) ≤ nI k from nI_le (by omega) (by omega)) zz)
          refine lv_iload_n hx hb dX10_silence_98 rfl (lv_at hl 1 rfl) ?_
          exact g_iret C hr hlk hW dX10_silence_99 (by rw [if_pos ⟨c_1, c_2⟩, hv, show k = 2 ^ D by omega]) (by rw [if_pos ⟨c_1, c_2⟩, show k = 2 ^ D by omega]) (rfl)
        | succ n ih24 =>
          intro k v H locs ls hm hv hW hl
          refine lv_iload_n hx hb dX10_silence_24 rfl (lv_at hl 0 rfl) ?_
          refine lv_iconst (v := 1) hx hb dX10_silence_25 (by decide) ?_
          refine lv_aload_n hx hb dX10_silence_26 rfl (lv_at hl 2 rfl) ?_
          refine gf_X10_13 C hW (by decide) rfl dX10_silence_27 ?_
          refine lv_iconst (v := 2) hx hb dX10_silence_30 (by decide) ?_
          refine g_ald (v := nI D) 2 C hW (by decide) rfl rfl (by decide) (by decide) hD dX10_silence_31 ?_
          refine lv_ishl hx hb dX10_silence_32 ?_
          rw [sh1 D hD8]
          refine lv_icmp_ge (tgt := 98) hx hb dX10_silence_33 (by decide) (fun zz => absurd zz (show ¬ nI (2 ^ D) ≤ nI k from nI_ge (by omega) (by omega))) (fun _ => ?_)
          refine lv_iload_n hx hb dX10_silence_36 rfl (lv_at hl 0 rfl) ?_
          refine lv_aload_n hx hb dX10_silence_37 rfl (lv_at hl 2 rfl) ?_
          refine gf_X10_31 C hW (by decide) rfl dX10_silence_38 ?_
          refine lv_bipush (v := 16) hx hb dX10_silence_41 (by decide) ?_
          refine g_ald (v := σ 104 16) 16 C hW (by decide) rfl rfl (by decide) (by decide) rfl dX10_silence_43 ?_
          refine lv_iand hx hb dX10_silence_44 ?_
          refine lv_if_ne (tgt := 92) hx hb dX10_silence_45 (by decide) (fun c_3 => ?_) (fun c_3 => ?_)
          · skip
            refine lv_iinc (v := nI (k + 1)) (lv' := [(3, .int (nI (k + 1))), (2, .int v), (0, .ref (gAd G 96)), (1, .int a0)]) hx hb dX10_silence_92 hl (k := 0) rfl (nI_1 _) (by decide) rfl (fun ls hl => ?_)
            refine lv_goto (tgt := 24) hx hb dX10_silence_95 (by decide) ?_
            exact ih24 (k + 1) v _ _ _ (by omega) (by rw [mSil_succ, if_neg c_3, hv]) (by rw [mSil_succ, if_neg c_3]; exact hW) (lv_sub hl [0, 1, 2, 3] rfl)
          · skip
            refine lv_iload_n hx hb dX10_silence_48 rfl (lv_at hl 1 rfl) ?_
            refine lv_bipush (v := (-9)) hx hb dX10_silence_49 (by decide) ?_
            refine lv_icmp_eq (tgt := 65) hx hb dX10_silence_51 (by decide) (fun c_4 => ?_) (fun c_4 => ?_)
            · skip
              refine lv_aload_n hx hb dX10_silence_65 rfl (lv_at hl 2 rfl) ?_
              refine lv_aload_n hx hb dX10_silence_66 rfl (lv_at hl 2 rfl) ?_
              refine gf_X10_31 C hW (by decide) rfl dX10_silence_67 ?_
              refine lv_bipush (v := 16) hx hb dX10_silence_70 (by decide) ?_
              refine g_ald (v := σ 104 16) 16 C hW (by decide) rfl rfl (by decide) (by decide) rfl dX10_silence_72 ?_
              refine lv_iload_n hx hb dX10_silence_73 rfl (lv_at hl 0 rfl) ?_
              refine lv_ior hx hb dX10_silence_74 ?_
              refine gp_X10_127 C hW (by decide) rfl dX10_silence_75 (fun H locs hW => ?_)
              refine lv_aload_n hx hb dX10_silence_78 rfl (lv_at hl 2 rfl) ?_
              refine lv_iload_n hx hb dX10_silence_79 rfl (lv_at hl 3 rfl) ?_
              refine g_callvI (r := bI (rNone (fun m => decide (a0 &&& (mRings σ ((σ 104 16) ||| (nI k)) (nI m) D N ^^^ -1) = 0)) (240 - mi) mi)) (σ' := gu (gu σ 96 25 ((mSil σ a0 D N mi k).2)) 96 25 ((σ 104 16) ||| (nI k))) (rest := []) (As := [.int a0]) C hW kv_X10_170 96 (by decide) (gL_10 rfl) rfl (m_isSilent l G (gu (gu σ 96 25 ((mSil σ a0 D N mi k).2)) 96 25 ((σ 104 16) ||| (nI k))) τ a0 D hD hD8 N hN hN5 mi hmi hmi2) ⟨Nat.le_of_ble_eq_true rfl, Nat.le_of_ble_eq_true rfl⟩ ⟨Nat.le_refl _, Nat.le_refl _⟩ rfl hl.1 rfl (Nat.le_of_ble_eq_true rfl) dX10_silence_80 (fun H locs hW => ?_)
              refine lv_if_eq (tgt := 90) hx hb dX10_silence_83 (by decide) (fun c_5 => ?_) (fun c_5 => ?_)
              · skip
                replace c_5 : (rNone (fun m => decide (a0 &&& (mRings σ ((σ 104 16) ||| (nI k)) (nI m) D N ^^^ -1) = 0)) (240 - mi) mi) = false := bI_eq0.mp c_5
                refine lv_iload_n hx hb dX10_silence_90 rfl (lv_at hl 1 rfl) ?_
                refine lv_istore_n (lv' := [(2, .int v), (3, .int (nI k)), (0, .ref (gAd G 96)), (1, .int a0)]) hx hb dX10_silence_91 rfl hl (by decide) rfl (fun ls hl => ?_)
                refine lv_iinc (v := nI (k + 1)) (lv' := [(3, .int (nI (k + 1))), (2, .int v), (0, .ref (gAd G 96)), (1, .int a0)]) hx hb dX10_silence_92 hl (k := 1) rfl (nI_1 _) (by decide) rfl (fun ls hl => ?_)
                refine lv_goto (tgt := 24) hx hb dX10_silence_95 (by decide) ?_
                exact ih24 (k + 1) v _ _ _ (by omega) (by rw [mSil_succ, if_pos c_3, if_pos (Or.inl (by rw [← hv]; exact c_4))]; show _ = ite _ _ _; rw [if_neg (by rw [c_5]; decide)]; exact hv) (by rw [mSil_succ, if_pos c_3, if_pos (Or.inl (by rw [← hv]; exact c_4))]; rw [gu_gu] at hW; exact hW) (lv_sub hl [0, 1, 2, 3] rfl)
              · skip
                replace c_5 : (rNone (fun m => decide (a0 &&& (mRings σ ((σ 104 16) ||| (nI k)) (nI m) D N ^^^ -1) = 0)) (240 - mi) mi) = true := bI_ne0.mp c_5
                refine lv_iload_n hx hb dX10_silence_86 rfl (lv_at hl 0 rfl) ?_
                refine lv_goto (tgt := 91) hx hb dX10_silence_87 (by decide) ?_
                refine lv_istore_n (lv' := [(2, .int (nI k)), (3, .int (nI k)), (0, .ref (gAd G 96)), (1, .int a0)]) hx hb dX10_silence_91 rfl hl (by decide) rfl (fun ls hl => ?_)
                refine lv_iinc (v := nI (k + 1)) (lv' := [(3, .int (nI (k + 1))), (2, .int (nI k)), (0, .ref (gAd G 96)), (1, .int a0)]) hx hb dX10_silence_92 hl (k := 1) rfl (nI_1 _) (by decide) rfl (fun ls hl => ?_)
                refine lv_goto (tgt := 24) hx hb dX10_silence_95 (by decide) ?_
                exact ih24 (k + 1) (nI k) _ _ _ (by omega) (by rw [mSil_succ, if_pos c_3, if_pos (Or.inl (by rw [← hv]; exact c_4))]; show _ = ite _ _ _; rw [if_pos c_5]) (by rw [mSil_succ, if_pos c_3, if_pos (Or.inl (by rw [← hv]; exact c_4))]; rw [gu_gu] at hW; exact hW) (lv_sub hl [0, 1, 2, 3] rfl)
            · skip
              refine lv_iload_n hx hb dX10_silence_54 rfl (lv_at hl 0 rfl) ?_
              refine g_callsI (r := mOnes (nI k) 8) (σ' := gu σ 96 25 ((mSil σ a0 D N mi k).2)) (rest := []) (As := [.int (nI k)]) C hW ks_X10_164 (m_ones l G (gu σ 96 25 ((mSil σ a0 D N mi k).2)) τ (nI k)) ⟨Nat.le_of_ble_eq_true rfl, Nat.le_of_ble_eq_true rfl⟩ ⟨Nat.le_refl _, Nat.le_refl _⟩ rfl hl.1 rfl (Nat.le_of_ble_eq_true rfl) dX10_silence_55 (fun H locs hW => ?_)
              refine lv_iload_n hx hb dX10_silence_58 rfl (lv_at hl 1 rfl) ?_
              refine g_callsI (r := mOnes v 8) (σ' := gu σ 96 25 ((mSil σ a0 D N mi k).2)) (rest := [.int (mOnes (nI k) 8)]) (As := [.int v]) C hW ks_X10_164 (m_ones l G (gu σ 96 25 ((mSil σ a0 D N mi k).2)) τ v) ⟨Nat.le_of_ble_eq_true rfl, Nat.le_of_ble_eq_true rfl⟩ ⟨Nat.le_refl _, Nat.le_refl _⟩ rfl hl.1 rfl (Nat.le_of_ble_eq_true rfl) dX10_silence_59 (fun H locs hW => ?_)
              refine lv_icmp_ge (tgt := 92) hx hb dX10_silence_62 (by decide) (fun c_6 => ?_) (fun c_6 => ?_)
              · skip
                refine lv_iinc (v := nI (k + 1)) (lv' := [(3, .int (nI (k + 1))), (2, .int v), (0, .ref (gAd G 96)), (1, .int a0)]) hx hb dX10_silence_92 hl (k := 0) rfl (nI_1 _) (by decide) rfl (fun ls hl => ?_)
                refine lv_goto (tgt := 24) hx hb dX10_silence_95 (by decide) ?_
                exact ih24 (k + 1) v _ _ _ (by omega) (by rw [mSil_succ, if_pos c_3, if_neg (by rw [← hv]; rintro (q | q); exact c_4 q; exact q c_6), hv]) (by rw [mSil_succ, if_pos c_3, if_neg (by rw [← hv]; rintro (q | q); exact c_4 q; exact q c_6)]; exact hW) (lv_sub hl [0, 1, 2, 3] rfl)
              · skip
                refine lv_aload_n hx hb dX10_silence_65 rfl (lv_at hl 2 rfl) ?_
                refine lv_aload_n hx hb dX10_silence_66 rfl (lv_at hl 2 rfl) ?_
                refine gf_X10_31 C hW (by decide) rfl dX10_silence_67 ?_
                refine lv_bipush (v := 16) hx hb dX10_silence_70 (by decide) ?_
                refine g_ald (v := σ 104 16) 16 C hW (by decide) rfl rfl (by decide) (by decide) rfl dX10_silence_72 ?_
                refine lv_iload_n hx hb dX10_silence_73 rfl (lv_at hl 0 rfl) ?_
                refine lv_ior hx hb dX10_silence_74 ?_
                refine gp_X10_127 C hW (by decide) rfl dX10_silence_75 (fun H locs hW => ?_)
                refine lv_aload_n hx hb dX10_silence_78 rfl (lv_at hl 2 rfl) ?_
                refine lv_iload_n hx hb dX10_silence_79 rfl (lv_at hl 3 rfl) ?_
                refine g_callvI (r := bI (rNone (fun m => decide (a0 &&& (mRings σ ((σ 104 16) ||| (nI k)) (nI m) D N ^^^ -1) = 0)) (240 - mi) mi)) (σ' := gu (gu σ 96 25 ((mSil σ a0 D N mi k).2)) 96 25 ((σ 104 16) ||| (nI k))) (rest := []) (As := [.int a0]) C hW kv_X10_170 96 (by decide) (gL_10 rfl) rfl (m_isSilent l G (gu (gu σ 96 25 ((mSil σ a0 D N mi k).2)) 96 25 ((σ 104 16) ||| (nI k))) τ a0 D hD hD8 N hN hN5 mi hmi hmi2) ⟨Nat.le_of_ble_eq_true rfl, Nat.le_of_ble_eq_true rfl⟩ ⟨Nat.le_refl _, Nat.le_refl _⟩ rfl hl.1 rfl (Nat.le_of_ble_eq_true rfl) dX10_silence_80 (fun H locs hW => ?_)
                refine lv_if_eq (tgt := 90) hx hb dX10_silence_83 (by decide) (fun c_7 => ?_) (fun c_7 => ?_)
                · skip
                  replace c_7 : (rNone (fun m => decide (a0 &&& (mRings σ ((σ 104 16) ||| (nI k)) (nI m) D N ^^^ -1) = 0)) (240 - mi) mi) = false := bI_eq0.mp c_7
                  refine lv_iload_n hx hb dX10_silence_90 rfl (lv_at hl 1 rfl) ?_
                  refine lv_istore_n (lv' := [(2, .int v), (3, .int (nI k)), (0, .ref (gAd G 96)), (1, .int a0)]) hx hb dX10_silence_91 rfl hl (by decide) rfl (fun ls hl => ?_)
                  refine lv_iinc (v := nI (k + 1)) (lv' := [(3, .int (nI (k + 1))), (2, .int v), (0, .ref (gAd G 96)), (1, .int a0)]) hx hb dX10_silence_92 hl (k := 1) rfl (nI_1 _) (by decide) rfl (fun ls hl => ?_)
                  refine lv_goto (tgt := 24) hx hb dX10_silence_95 (by decide) ?_
                  exact ih24 (k + 1) v _ _ _ (by omega) (by rw [mSil_succ, if_pos c_3, if_pos (Or.inr (by rw [← hv]; exact c_6))]; show _ = ite _ _ _; rw [if_neg (by rw [c_7]; decide)]; exact hv) (by rw [mSil_succ, if_pos c_3, if_pos (Or.inr (by rw [← hv]; exact c_6))]; rw [gu_gu] at hW; exact hW) (lv_sub hl [0, 1, 2, 3] rfl)
                · skip
                  replace c_7 : (rNone (fun m => decide (a0 &&& (mRings σ ((σ 104 16) ||| (nI k)) (nI m) D N ^^^ -1) = 0)) (240 - mi) mi) = true := bI_ne0.mp c_7
                  refine lv_iload_n hx hb dX10_silence_86 rfl (lv_at hl 0 rfl) ?_
                  refine lv_goto (tgt := 91) hx hb dX10_silence_87 (by decide) ?_
                  refine lv_istore_n (lv' := [(2, .int (nI k)), (3, .int (nI k)), (0, .ref (gAd G 96)), (1, .int a0)]) hx hb dX10_silence_91 rfl hl (by decide) rfl (fun ls hl => ?_)
                  refine lv_iinc (v := nI (k + 1)) (lv' := [(3, .int (nI (k + 1))), (2, .int (nI k)), (0, .ref (gAd G 96)), (1, .int a0)]) hx hb dX10_silence_92 hl (k := 1) rfl (nI_1 _) (by decide) rfl (fun ls hl => ?_)
                  refine lv_goto (tgt := 24) hx hb dX10_silence_95 (by decide) ?_
                  exact ih24 (k + 1) (nI k) _ _ _ (by omega) (by rw [mSil_succ, if_pos c_3, if_pos (Or.inr (by rw [← hv]; exact c_6))]; show _ = ite _ _ _; rw [if_pos c_7]) (by rw [mSil_succ, if_pos c_3, if_pos (Or.inr (by rw [← hv]; exact c_6))]; rw [gu_gu] at hW; exact hW) (lv_sub hl [0, 1, 2, 3] rfl)
      exact L24 (2 ^ D) 0 (-9) _ _ _ (by omega) (by first | rfl | simp [bI, c_1, c_2]) (by rw [show (mSil σ a0 D N mi 0).2 = σ 96 25 from rfl, gu_self]; exact hW) (lv_sub hl [0, 1, 2, 3] rfl)
    · skip
      refine lv_iconst (v := (-1)) hx hb dX10_silence_17 (by decide) ?_
      exact g_iret C hr hlk hW dX10_silence_18 (by simp [c_1, c_2]) (by simp [c_1, c_2]) (rfl)
set_option maxHeartbeats 4000000 in
set_option maxRecDepth 100000 in
theorem m_hears (l : Launch) (G : gG) (σ : gSt) (τ : Nat → Int64) (a0 a1 a2 : Int32) (hd : Nat) (hh : σ 96 24 = nI hd) (hh6 : hd ≤ 6) : gI l yX10_hears cX10_hears 4 (some .int) 2 43 G [.ref (gAd G 96), .int a0, .int a1, .int a2] σ τ (if (mIn a0 0 (σ 98 1 - 1) = true ∧ mIn a1 0 239 = true ∧ mIn a2 0 1 = true) then (if hd = 6 then -3 else nI (hd + 1)) else -1) (if (mIn a0 0 (σ 98 1 - 1) = true ∧ mIn a1 0 239 = true ∧ mIn a2 0 1 = true) then (if hd = 6 then σ else gu (gu (gu (gu σ 108 hd a0) 109 hd a1) 110 hd a2) 96 24 (nI (hd + 1))) else σ) τ := by
  refine gMet_of (by decide) (Nat.le_of_ble_eq_true rfl) ?_
  intro p e s m args below meth c C hr hlk ls hl hW
  have hx := C.1
  have hb := C.2.1
  have hl : lv_has ls 4 [(0, .ref (gAd G 96)), (1, .int a0), (2, .int a1), (3, .int a2)] := hl
  refine lv_aload_n hx hb dX10_hears_0 rfl (lv_at hl 0 rfl) ?_
  refine lv_iconst (v := 0) hx hb dX10_hears_1 (by decide) ?_
  refine gp_X10_62 C hW (by decide) rfl dX10_hears_2 (fun H locs hW => ?_)
  refine lv_aload_n hx hb dX10_hears_5 rfl (lv_at hl 0 rfl) ?_
  refine lv_iload_n hx hb dX10_hears_6 rfl (lv_at hl 1 rfl) ?_
  refine g_callvI (r := bI (mIn a0 0 (σ 98 1 - 1))) (σ' := σ) (rest := []) (As := [.int a0]) C hW kv_X10_136 96 (by decide) (gL_10 rfl) rfl (m_isPerson l G σ τ a0) ⟨Nat.le_of_ble_eq_true rfl, Nat.le_of_ble_eq_true rfl⟩ ⟨Nat.le_refl _, Nat.le_refl _⟩ rfl hl.1 rfl (Nat.le_of_ble_eq_true rfl) dX10_hears_7 (fun H locs hW => ?_)
  refine lv_if_eq (tgt := 33) hx hb dX10_hears_10 (by decide) (fun c_1 => ?_) (fun c_1 => ?_)
  · skip
    replace c_1 : (mIn a0 0 (σ 98 1 - 1)) = false := bI_eq0.mp c_1
    refine lv_iconst (v := (-1)) hx hb dX10_hears_33 (by decide) ?_
    exact g_iret C hr hlk hW dX10_hears_34 (by simp [c_1]) (by simp [c_1]) (rfl)
  · skip
    replace c_1 : (mIn a0 0 (σ 98 1 - 1)) = true := bI_ne0.mp c_1
    refine lv_iload_n hx hb dX10_hears_13 rfl (lv_at hl 2 rfl) ?_
    refine lv_iconst (v := 0) hx hb dX10_hears_14 (by decide) ?_
    refine lv_sipush (v := 239) hx hb dX10_hears_15 (by decide) ?_
    refine g_callsI (r := bI (mIn a1 0 239)) (σ' := σ) (rest := []) (As := [.int a1, .int 0, .int 239]) C hW ks_X10_66 (m_in l G σ τ a1 0 239) ⟨Nat.le_of_ble_eq_true rfl, Nat.le_of_ble_eq_true rfl⟩ ⟨Nat.le_refl _, Nat.le_refl _⟩ rfl hl.1 rfl (Nat.le_of_ble_eq_true rfl) dX10_hears_18 (fun H locs hW => ?_)
    refine lv_if_eq (tgt := 33) hx hb dX10_hears_21 (by decide) (fun c_2 => ?_) (fun c_2 => ?_)
    · skip
      replace c_2 : (mIn a1 0 239) = false := bI_eq0.mp c_2
      refine lv_iconst (v := (-1)) hx hb dX10_hears_33 (by decide) ?_
      exact g_iret C hr hlk hW dX10_hears_34 (by simp [c_1, c_2]) (by simp [c_1, c_2]) (rfl)
    · skip
      replace c_2 : (mIn a1 0 239) = true := bI_ne0.mp c_2
      refine lv_iload_n hx hb dX10_hears_24 rfl (lv_at hl 3 rfl) ?_
      refine lv_iconst (v := 0) hx hb dX10_hears_25 (by decide) ?_
      refine lv_iconst (v := 1) hx hb dX10_hears_26 (by decide) ?_
      refine g_callsI (r := bI (mIn a2 0 1)) (σ' := σ) (rest := []) (As := [.int a2, .int 0, .int 1]) C hW ks_X10_66 (m_in l G σ τ a2 0 1) ⟨Nat.le_of_ble_eq_true rfl, Nat.le_of_ble_eq_true rfl⟩ ⟨Nat.le_refl _, Nat.le_refl _⟩ rfl hl.1 rfl (Nat.le_of_ble_eq_true rfl) dX10_hears_27 (fun H locs hW => ?_)
      refine lv_if_ne (tgt := 35) hx hb dX10_hears_30 (by decide) (fun c_3 => ?_) (fun c_3 => ?_)
      · skip
        replace c_3 : (mIn a2 0 1) = true := bI_ne0.mp c_3
        refine lv_aload_n hx hb dX10_hears_35 rfl (lv_at hl 0 rfl) ?_
        refine gf_X10_121 (v := nI hd) C hW (by decide) rfl hh dX10_hears_36 ?_
        refine lv_bipush (v := 6) hx hb dX10_hears_39 (by decide) ?_
        refine lv_icmp_ne (tgt := 47) hx hb dX10_hears_41 (by decide) (fun c_4 => ?_) (fun c_4 => ?_)
        · skip
          replace c_4 : ¬ hd = 6 := mt (nI_eq (a := hd) (b := 6) (by omega) (by omega)).mpr c_4
          refine lv_aload_n hx hb dX10_hears_47 rfl (lv_at hl 0 rfl) ?_
          refine gf_X10_44 C hW (by decide) rfl dX10_hears_48 ?_
          refine lv_aload_n hx hb dX10_hears_51 rfl (lv_at hl 0 rfl) ?_
          refine gf_X10_121 (v := nI hd) C hW (by decide) rfl hh dX10_hears_52 ?_
          refine lv_iload_n hx hb dX10_hears_55 rfl (lv_at hl 1 rfl) ?_
          refine g_ast hd C hW (by decide) rfl rfl (show hd < 6 by omega) (by decide) dX10_hears_56 (fun H locs hW => ?_)
          refine lv_aload_n hx hb dX10_hears_57 rfl (lv_at hl 0 rfl) ?_
          refine gf_X10_47 C hW (by decide) rfl dX10_hears_58 ?_
          refine lv_aload_n hx hb dX10_hears_61 rfl (lv_at hl 0 rfl) ?_
          refine gf_X10_121 (v := nI hd) C hW (by decide) rfl hh dX10_hears_62 ?_
          refine lv_iload_n hx hb dX10_hears_65 rfl (lv_at hl 2 rfl) ?_
          refine g_ast hd C hW (by decide) rfl rfl (show hd < 6 by omega) (by decide) dX10_hears_66 (fun H locs hW => ?_)
          refine lv_aload_n hx hb dX10_hears_67 rfl (lv_at hl 0 rfl) ?_
          refine gf_X10_50 C hW (by decide) rfl dX10_hears_68 ?_
          refine lv_aload_n hx hb dX10_hears_71 rfl (lv_at hl 0 rfl) ?_
          refine gf_X10_121 (v := nI hd) C hW (by decide) rfl hh dX10_hears_72 ?_
          refine lv_iload_n hx hb dX10_hears_75 rfl (lv_at hl 3 rfl) ?_
          refine g_ast hd C hW (by decide) rfl rfl (show hd < 6 by omega) (by decide) dX10_hears_76 (fun H locs hW => ?_)
          refine lv_aload_n hx hb dX10_hears_77 rfl (lv_at hl 0 rfl) ?_
          refine lv_dup hx hb dX10_hears_78 rfl ?_
          refine gf_X10_121 (v := nI hd) C hW (by decide) rfl hh dX10_hears_79 ?_
          refine lv_iconst (v := 1) hx hb dX10_hears_82 (by decide) ?_
          refine lv_iadd hx hb dX10_hears_83 ?_
          refine gp_X10_121 C hW (by decide) rfl dX10_hears_84 (fun H locs hW => ?_)
          refine lv_aload_n hx hb dX10_hears_87 rfl (lv_at hl 0 rfl) ?_
          refine gf_X10_121 (v := (nI hd) + 1) C hW (by decide) rfl rfl dX10_hears_88 ?_
          exact g_iret C hr hlk hW dX10_hears_91 (by rw [if_pos ⟨c_1, c_2, c_3⟩, if_neg c_4, ← nI_1]) (by rw [if_pos ⟨c_1, c_2, c_3⟩, if_neg c_4, ← nI_1]) (rfl)
        · skip
          replace c_4 : hd = 6 := (nI_eq (a := hd) (b := 6) (by omega) (by omega)).mp c_4
          refine lv_bipush (v := (-3)) hx hb dX10_hears_44 (by decide) ?_
          exact g_iret C hr hlk hW dX10_hears_46 (by simp [c_1, c_2, c_3, c_4]) (by simp [c_1, c_2, c_3, c_4]) (rfl)
      · skip
        replace c_3 : (mIn a2 0 1) = false := bI_eq0.mp c_3
        refine lv_iconst (v := (-1)) hx hb dX10_hears_33 (by decide) ?_
        exact g_iret C hr hlk hW dX10_hears_34 (by simp [c_1, c_2, c_3]) (by simp [c_1, c_2, c_3]) (rfl)
set_option maxHeartbeats 4000000 in
set_option maxRecDepth 100000 in
theorem m_forget (l : Launch) (G : gG) (σ : gSt) (τ : Nat → Int64) : gI l yX10_forget cX10_forget 2 (some .int) 0 0 G [.ref (gAd G 96)] σ τ (σ 96 24) (gu σ 96 24 0) τ := by
  refine gMet_of (by decide) (Nat.le_of_ble_eq_true rfl) ?_
  intro p e s m args below meth c C hr hlk ls hl hW
  have hx := C.1
  have hb := C.2.1
  have hl : lv_has ls 2 [(0, .ref (gAd G 96))] := hl
  refine lv_aload_n hx hb dX10_forget_0 rfl (lv_at hl 0 rfl) ?_
  refine lv_iconst (v := 0) hx hb dX10_forget_1 (by decide) ?_
  refine gp_X10_62 C hW (by decide) rfl dX10_forget_2 (fun H locs hW => ?_)
  refine lv_aload_n hx hb dX10_forget_5 rfl (lv_at hl 0 rfl) ?_
  refine gf_X10_121 (v := σ 96 24) C hW (by decide) rfl rfl dX10_forget_6 ?_
  refine lv_istore_n (lv' := [(1, .int (σ 96 24)), (0, .ref (gAd G 96))]) hx hb dX10_forget_9 rfl hl (by decide) rfl (fun ls hl => ?_)
  refine lv_aload_n hx hb dX10_forget_10 rfl (lv_at hl 1 rfl) ?_
  refine lv_iconst (v := 0) hx hb dX10_forget_11 (by decide) ?_
  refine gp_X10_121 C hW (by decide) rfl dX10_forget_12 (fun H locs hW => ?_)
  refine lv_iload_n hx hb dX10_forget_15 rfl (lv_at hl 0 rfl) ?_
  exact g_iret C hr hlk hW dX10_forget_16 (by simp [bI]) (rfl) (rfl)
set_option maxHeartbeats 4000000 in
set_option maxRecDepth 100000 in
theorem m_can (l : Launch) (G : gG) (σ : gSt) (τ : Nat → Int64) (a0 : Int32) (hd : Nat) (hh : σ 96 24 = nI hd) (hh6 : hd ≤ 6) (D : Nat) (hD : σ 98 2 = nI D) (hD8 : D ≤ 8) (P : Nat) (hP : σ 98 0 = nI P) (hP6 : P ≤ 6) : gI l yX10_can cX10_can 6 (some .int) 2 43 G [.ref (gAd G 96), .int a0] σ τ (if mIn a0 0 (σ 98 1 - 1) = true then rCan (σ 102) (σ 103) (σ 101) (σ 104) (σ 108) (σ 109) (σ 110) (σ 98 4) (σ 104 16) a0 D hd P else -1) (if mIn a0 0 (σ 98 1 - 1) = true then mNowS σ else σ) τ := by
  refine gMet_of (by decide) (Nat.le_of_ble_eq_true rfl) ?_
  intro p e s m args below meth c C hr hlk ls hl hW
  have hx := C.1
  have hb := C.2.1
  have hl : lv_has ls 6 [(0, .ref (gAd G 96)), (1, .int a0)] := hl
  refine lv_aload_n hx hb dX10_can_0 rfl (lv_at hl 0 rfl) ?_
  refine lv_iconst (v := 0) hx hb dX10_can_1 (by decide) ?_
  refine gp_X10_62 C hW (by decide) rfl dX10_can_2 (fun H locs hW => ?_)
  refine lv_aload_n hx hb dX10_can_5 rfl (lv_at hl 0 rfl) ?_
  refine lv_iload_n hx hb dX10_can_6 rfl (lv_at hl 1 rfl) ?_
  refine g_callvI (r := bI (mIn a0 0 (σ 98 1 - 1))) (σ' := σ) (rest := []) (As := [.int a0]) C hW kv_X10_136 96 (by decide) (gL_10 rfl) rfl (m_isPerson l G σ τ a0) ⟨Nat.le_of_ble_eq_true rfl, Nat.le_of_ble_eq_true rfl⟩ ⟨Nat.le_refl _, Nat.le_refl _⟩ rfl hl.1 rfl (Nat.le_of_ble_eq_true rfl) dX10_can_7 (fun H locs hW => ?_)
  refine lv_if_ne (tgt := 15) hx hb dX10_can_10 (by decide) (fun c_1 => ?_) (fun c_1 => ?_)
  · skip
    replace c_1 : (mIn a0 0 (σ 98 1 - 1)) = true := bI_ne0.mp c_1
    refine lv_aload_n hx hb dX10_can_15 rfl (lv_at hl 0 rfl) ?_
    refine g_callvV (σ' := gu σ 96 25 (σ 104 16)) (rest := []) (As := []) C hW kv_X10_139 96 (by decide) (gL_10 rfl) rfl (m_asNow l G σ τ) ⟨Nat.le_of_ble_eq_true rfl, Nat.le_of_ble_eq_true rfl⟩ ⟨Nat.le_refl _, Nat.le_refl _⟩ rfl hl.1 rfl (Nat.le_of_ble_eq_true rfl) dX10_can_16 (fun H locs hW => ?_)
    refine lv_iconst (v := 0) hx hb dX10_can_19 (by decide) ?_
    refine lv_istore_n (lv' := [(2, .int 0), (0, .ref (gAd G 96)), (1, .int a0)]) hx hb dX10_can_20 rfl hl (by decide) rfl (fun ls hl => ?_)
    refine lv_iconst (v := 0) hx hb dX10_can_21 (by decide) ?_
    refine lv_istore_n (lv' := [(3, .int 0), (2, .int 0), (0, .ref (gAd G 96)), (1, .int a0)]) hx hb dX10_can_22 rfl hl (by decide) rfl (fun ls hl => ?_)
    have L23 : ∀ (n : Nat) (k : Nat) (v : Int32) (H : Heap) (locs : List Loc) (ls : Array Slot), n + k = P → v = (rCan (σ 102) (σ 103) (σ 101) (σ 104) (σ 108) (σ 109) (σ 110) (σ 98 4) (σ 104 16) a0 D hd k) → gW G s (gu σ 96 25 (σ 104 16)) τ H locs → lv_has ls 6 [(3, .int (nI k)), (2, .int v), (0, .ref (gAd G 96)), (1, .int a0)] → W p l e (gRm 2 43) s m args below meth c H locs 0 0 (MQ below (gQi G (if mIn a0 0 (σ 98 1 - 1) = true then rCan (σ 102) (σ 103) (σ 101) (σ 104) (σ 108) (σ 109) (σ 110) (σ 98 4) (σ 104 16) a0 D hd P else -1) (if mIn a0 0 (σ 98 1 - 1) = true then mNowS σ else σ) τ) args s 0 0 (gA G)) (F0 m 23 ls []) := by
      intro n
      induction n with
      | zero =>
        intro k v H locs ls hm hv hW hl
        refine lv_iload_n hx hb dX10_can_23 rfl (lv_at hl 0 rfl) ?_
        refine lv_aload_n hx hb dX10_can_24 rfl (lv_at hl 2 rfl) ?_
        refine gf_X10_13 C hW (by decide) rfl dX10_can_25 ?_
        refine lv_iconst (v := 0) hx hb dX10_can_28 (by decide) ?_
        refine g_ald (v := nI P) 0 C hW (by decide) rfl rfl (by decide) (by decide) hP dX10_can_29 ?_
        refine lv_icmp_ge (tgt := 130) hx hb dX10_can_30 (by decide) (fun _ => ?_) (fun zz => absurd (show nI P ≤ nI k from nI_le (by omega) (by omega)) zz)
        refine lv_iload_n hx hb dX10_can_130 rfl (lv_at hl 1 rfl) ?_
        exact g_iret C hr hlk hW dX10_can_131 (by rw [if_pos c_1, hv, show k = P by omega]) (by rw [if_pos c_1]) (rfl)
      | succ n ih23 =>
        intro k v H locs ls hm hv hW hl
        refine lv_iload_n hx hb dX10_can_23 rfl (lv_at hl 0 rfl) ?_
        refine lv_aload_n hx hb dX10_can_24 rfl (lv_at hl 2 rfl) ?_
        refine gf_X10_13 C hW (by decide) rfl dX10_can_25 ?_
        refine lv_iconst (v := 0) hx hb dX10_can_28 (by decide) ?_
        refine g_ald (v := nI P) 0 C hW (by decide) rfl rfl (by decide) (by decide) hP dX10_can_29 ?_
        refine lv_icmp_ge (tgt := 130) hx hb dX10_can_30 (by decide) (fun zz => absurd zz (show ¬ nI P ≤ nI k from nI_ge (by omega) (by omega))) (fun _ => ?_)
        refine lv_iconst (v := 1) hx hb dX10_can_33 (by decide) ?_
        refine lv_istore (lv' := [(4, .int 1), (3, .int (nI k)), (2, .int v), (0, .ref (gAd G 96)), (1, .int a0)]) hx hb dX10_can_34 hl (by decide) rfl (fun ls hl => ?_)
        refine lv_iconst (v := 0) hx hb dX10_can_36 (by decide) ?_
        refine lv_istore (lv' := [(5, .int 0), (4, .int 1), (3, .int (nI k)), (2, .int v), (0, .ref (gAd G 96)), (1, .int a0)]) hx hb dX10_can_37 hl (by decide) rfl (fun ls hl => ?_)
        have L39 : ∀ (n_ : Nat) (e_ : Nat) (w : Bool) (H : Heap) (locs : List Loc) (ls : Array Slot), n_ + e_ = hd → w = (rFits (σ 102) (σ 103) (σ 101) (σ 104) (σ 108) (σ 109) (σ 110) (σ 98 4) (σ 104 16) a0 (nI k) D e_) → gW G s (gu σ 96 25 (σ 104 16)) τ H locs → lv_has ls 6 [(5, .int (nI e_)), (4, .int (bI w)), (3, .int (nI k)), (2, .int v), (0, .ref (gAd G 96)), (1, .int a0)] → W p l e (gRm 2 43) s m args below meth c H locs 0 0 (MQ below (gQi G (if mIn a0 0 (σ 98 1 - 1) = true then rCan (σ 102) (σ 103) (σ 101) (σ 104) (σ 108) (σ 109) (σ 110) (σ 98 4) (σ 104 16) a0 D hd P else -1) (if mIn a0 0 (σ 98 1 - 1) = true then mNowS σ else σ) τ) args s 0 0 (gA G)) (F0 m 39 ls []) := by
          intro n_
          induction n_ with
          | zero =>
            intro e_ w H locs ls hm hw hW hl
            refine lv_iload hx hb dX10_can_39 (lv_at hl 0 rfl) ?_
            refine lv_aload_n hx hb dX10_can_41 rfl (lv_at hl 4 rfl) ?_
            refine gf_X10_121 (v := nI hd) C hW (by decide) rfl hh dX10_can_42 ?_
            refine lv_icmp_ge (tgt := 109) hx hb dX10_can_45 (by decide) (fun _ => ?_) (fun zz => absurd (show nI hd ≤ nI e_ from nI_le (by omega) (by omega)) zz)
            have hfe : w = rFits (σ 102) (σ 103) (σ 101) (σ 104) (σ 108) (σ 109) (σ 110) (σ 98 4) (σ 104 16) a0 (nI k) D hd := by rw [hw, show e_ = hd by omega]
            refine lv_iload_n hx hb dX10_can_109 rfl (lv_at hl 3 rfl) ?_
            refine lv_iload hx hb dX10_can_110 (lv_at hl 1 rfl) ?_
            refine lv_if_eq (tgt := 121) hx hb dX10_can_112 (by decide) (fun c_2 => ?_) (fun c_2 => ?_)
            · skip
              replace c_2 : w = false := bI_eq0.mp c_2
              refine lv_iconst (v := 0) hx hb dX10_can_121 (by decide) ?_
              refine lv_ior hx hb dX10_can_122 ?_
              refine lv_istore_n (lv' := [(2, .int (v ||| 0)), (5, .int (nI e_)), (4, .int (bI w)), (3, .int (nI k)), (0, .ref (gAd G 96)), (1, .int a0)]) hx hb dX10_can_123 rfl hl (by decide) rfl (fun ls hl => ?_)
              refine lv_iinc (v := nI (k + 1)) (lv' := [(3, .int (nI (k + 1))), (2, .int (v ||| 0)), (5, .int (nI e_)), (4, .int (bI w)), (0, .ref (gAd G 96)), (1, .int a0)]) hx hb dX10_can_124 hl (k := 3) rfl (nI_1 _) (by decide) rfl (fun ls hl => ?_)
              refine lv_goto (tgt := 23) hx hb dX10_can_127 (by decide) ?_
              exact ih23 (k + 1) (v ||| 0) _ _ _ (by omega) (by rw [rCan, ← hv, ← hfe]; simp [c_2]) hW (lv_sub hl [0, 1, 4, 5] rfl)
            · skip
              replace c_2 : w = true := bI_ne0.mp c_2
              refine lv_iconst (v := 1) hx hb dX10_can_115 (by decide) ?_
              refine lv_iload_n hx hb dX10_can_116 rfl (lv_at hl 2 rfl) ?_
              refine lv_ishl hx hb dX10_can_117 ?_
              refine lv_goto (tgt := 122) hx hb dX10_can_118 (by decide) ?_
              refine lv_ior hx hb dX10_can_122 ?_
              refine lv_istore_n (lv' := [(2, .int (v ||| (1 <<< ((nI k) &&& 31)))), (5, .int (nI e_)), (4, .int (bI w)), (3, .int (nI k)), (0, .ref (gAd G 96)), (1, .int a0)]) hx hb dX10_can_123 rfl hl (by decide) rfl (fun ls hl => ?_)
              refine lv_iinc (v := nI (k + 1)) (lv' := [(3, .int (nI (k + 1))), (2, .int (v ||| (1 <<< ((nI k) &&& 31)))), (5, .int (nI e_)), (4, .int (bI w)), (0, .ref (gAd G 96)), (1, .int a0)]) hx hb dX10_can_124 hl (k := 3) rfl (nI_1 _) (by decide) rfl (fun ls hl => ?_)
              refine lv_goto (tgt := 23) hx hb dX10_can_127 (by decide) ?_
              exact ih23 (k + 1) (v ||| (1 <<< ((nI k) &&& 31))) _ _ _ (by omega) (by rw [rCan, ← hv, ← hfe]; simp [c_2]) hW (lv_sub hl [0, 1, 4, 5] rfl)
          | succ n_ ih39 =>
            intro e_ w H locs ls hm hw hW hl
            refine lv_iload hx hb dX10_can_39 (lv_at hl 0 rfl) ?_
            refine lv_aload_n hx hb dX10_can_41 rfl (lv_at hl 4 rfl) ?_
            refine gf_X10_121 (v := nI hd) C hW (by decide) rfl hh dX10_can_42 ?_
            refine lv_icmp_ge (tgt := 109) hx hb dX10_can_45 (by decide) (fun zz => absurd zz (show ¬ nI hd ≤ nI e_ from nI_ge (by omega) (by omega))) (fun _ => ?_)
            have K101 : ∀ (z : Bool), z = (rFits (σ 102) (σ 103) (σ 101) (σ 104) (σ 108) (σ 109) (σ 110) (σ 98 4) (σ 104 16) a0 (nI k) D (e_ + 1)) → ∀ (H : Heap) (locs : List Loc) (ls : Array Slot), gW G s (gu σ 96 25 (σ 104 16)) τ H locs → lv_has ls 6 [(5, .int (nI e_)), (4, .int (bI w)), (3, .int (nI k)), (2, .int v), (0, .ref (gAd G 96)), (1, .int a0)] → W p l e (gRm 2 43) s m args below meth c H locs 0 0 (MQ below (gQi G (if mIn a0 0 (σ 98 1 - 1) = true then rCan (σ 102) (σ 103) (σ 101) (σ 104) (σ 108) (σ 109) (σ 110) (σ 98 4) (σ 104 16) a0 D hd P else -1) (if mIn a0 0 (σ 98 1 - 1) = true then mNowS σ else σ) τ) args s 0 0 (gA G)) (F0 m 101 ls [.int (bI z)]) := by
              intro z hz H locs ls hW hl
              refine lv_istore (lv' := [(4, .int (bI z)), (5, .int (nI e_)), (3, .int (nI k)), (2, .int v), (0, .ref (gAd G 96)), (1, .int a0)]) hx hb dX10_can_101 hl (by decide) rfl (fun ls hl => ?_)
              refine lv_iinc (v := nI (e_ + 1)) (lv' := [(5, .int (nI (e_ + 1))), (4, .int (bI z)), (3, .int (nI k)), (2, .int v), (0, .ref (gAd G 96)), (1, .int a0)]) hx hb dX10_can_103 hl (k := 1) rfl (nI_1 _) (by decide) rfl (fun ls hl => ?_)
              refine lv_goto (tgt := 39) hx hb dX10_can_106 (by decide) ?_
              exact ih39 (e_ + 1) z _ _ _ (by omega) (by rw [hz]) hW (lv_sub hl [0, 1, 2, 3, 4, 5] rfl)
            refine lv_iload hx hb dX10_can_48 (lv_at hl 1 rfl) ?_
            refine lv_if_eq (tgt := 100) hx hb dX10_can_50 (by decide) (fun c_3 => ?_) (fun c_3 => ?_)
            · skip
              replace c_3 : w = false := bI_eq0.mp c_3
              refine lv_iconst (v := 0) hx hb dX10_can_100 (by decide) ?_
              exact K101 false (by simp_all [rFits, bI_eq0, bI_eq1]) _ _ _ hW (lv_sub hl [0, 1, 2, 3, 4, 5] rfl)
            · skip
              replace c_3 : w = true := bI_ne0.mp c_3
              refine lv_aload_n hx hb dX10_can_53 rfl (lv_at hl 4 rfl) ?_
              refine gf_X10_44 C hW (by decide) rfl dX10_can_54 ?_
              refine lv_iload hx hb dX10_can_57 (lv_at hl 0 rfl) ?_
              refine g_ald (v := σ 108 e_) e_ C hW (by decide) rfl rfl (show e_ < 6 by omega) (by decide) rfl dX10_can_59 ?_
              refine lv_iload_n hx hb dX10_can_60 rfl (lv_at hl 5 rfl) ?_
              refine lv_icmp_ne (tgt := 96) hx hb dX10_can_61 (by decide) (fun c_4 => ?_) (fun c_4 => ?_)
              · skip
                refine lv_iconst (v := 1) hx hb dX10_can_96 (by decide) ?_
                refine lv_goto (tgt := 101) hx hb dX10_can_97 (by decide) ?_
                exact K101 true (by simp_all [rFits, bI_eq0, bI_eq1]) _ _ _ hW (lv_sub hl [0, 1, 2, 3, 4, 5] rfl)
              · skip
                refine lv_aload_n hx hb dX10_can_64 rfl (lv_at hl 4 rfl) ?_
                refine lv_iload_n hx hb dX10_can_65 rfl (lv_at hl 5 rfl) ?_
                refine lv_aload_n hx hb dX10_can_66 rfl (lv_at hl 4 rfl) ?_
                refine gf_X10_47 C hW (by decide) rfl dX10_can_67 ?_
                refine lv_iload hx hb dX10_can_70 (lv_at hl 0 rfl) ?_
                refine g_ald (v := σ 109 e_) e_ C hW (by decide) rfl rfl (show e_ < 6 by omega) (by decide) rfl dX10_can_72 ?_
                refine lv_iload_n hx hb dX10_can_73 rfl (lv_at hl 2 rfl) ?_
                refine g_callvI (r := bI (mRung σ (σ 104 16) a0 (σ 109 e_) (nI k) D)) (σ' := gu σ 96 25 (σ 104 16)) (rest := []) (As := [.int a0, .int (σ 109 e_), .int (nI k)]) C hW kv_X10_133 96 (by decide) (gL_10 rfl) rfl (m_isRung l G (gu σ 96 25 (σ 104 16)) τ a0 (σ 109 e_) (nI k) D (hD) hD8) ⟨Nat.le_of_ble_eq_true rfl, Nat.le_of_ble_eq_true rfl⟩ ⟨Nat.le_refl _, Nat.le_refl _⟩ rfl hl.1 rfl (Nat.le_of_ble_eq_true rfl) dX10_can_74 (fun H locs hW => ?_)
                refine lv_aload_n hx hb dX10_can_77 rfl (lv_at hl 4 rfl) ?_
                refine gf_X10_50 C hW (by decide) rfl dX10_can_78 ?_
                refine lv_iload hx hb dX10_can_81 (lv_at hl 0 rfl) ?_
                refine g_ald (v := σ 110 e_) e_ C hW (by decide) rfl rfl (show e_ < 6 by omega) (by decide) rfl dX10_can_83 ?_
                refine lv_iconst (v := 1) hx hb dX10_can_84 (by decide) ?_
                refine lv_icmp_ne (tgt := 92) hx hb dX10_can_85 (by decide) (fun c_5 => ?_) (fun c_5 => ?_)
                · skip
                  refine lv_iconst (v := 0) hx hb dX10_can_92 (by decide) ?_
                  refine lv_icmp_ne (tgt := 100) hx hb dX10_can_93 (by decide) (fun c_6 => ?_) (fun c_6 => ?_)
                  · skip
                    refine lv_iconst (v := 0) hx hb dX10_can_100 (by decide) ?_
                    exact K101 false (by simp_all [rFits, bI_eq0, bI_eq1]) _ _ _ hW (lv_sub hl [0, 1, 2, 3, 4, 5] rfl)
                  · skip
                    refine lv_iconst (v := 1) hx hb dX10_can_96 (by decide) ?_
                    refine lv_goto (tgt := 101) hx hb dX10_can_97 (by decide) ?_
                    exact K101 true (by simp_all [rFits, bI_eq0, bI_eq1]) _ _ _ hW (lv_sub hl [0, 1, 2, 3, 4, 5] rfl)
                · skip
                  refine lv_iconst (v := 1) hx hb dX10_can_88 (by decide) ?_
                  refine lv_goto (tgt := 93) hx hb dX10_can_89 (by decide) ?_
                  refine lv_icmp_ne (tgt := 100) hx hb dX10_can_93 (by decide) (fun c_7 => ?_) (fun c_7 => ?_)
                  · skip
                    refine lv_iconst (v := 0) hx hb dX10_can_100 (by decide) ?_
                    exact K101 false (by simp_all [rFits, bI_eq0, bI_eq1]) _ _ _ hW (lv_sub hl [0, 1, 2, 3, 4, 5] rfl)
                  · skip
                    refine lv_iconst (v := 1) hx hb dX10_can_96 (by decide) ?_
                    refine lv_goto (tgt := 101) hx hb dX10_can_97 (by decide) ?_
                    exact K101 true (by simp_all [rFits, bI_eq0, bI_eq1]) _ _ _ hW (lv_sub hl [0, 1, 2, 3, 4, 5] rfl)
        exact L39 hd 0 true _ _ _ (by omega) (by first | rfl | simp [bI, c_1, hv]) hW (lv_sub hl [0, 1, 2, 3, 4, 5] rfl)
    exact L23 P 0 0 _ _ _ (by omega) (by first | rfl | simp [bI, c_1]) hW (lv_sub hl [0, 1, 2, 3] rfl)
  · skip
    replace c_1 : (mIn a0 0 (σ 98 1 - 1)) = false := bI_eq0.mp c_1
    refine lv_iconst (v := (-1)) hx hb dX10_can_13 (by decide) ?_
    exact g_iret C hr hlk hW dX10_can_14 (by simp [c_1]) (by simp [c_1]) (rfl)
set_option maxHeartbeats 4000000 in
set_option maxRecDepth 100000 in
theorem m_tells (l : Launch) (G : gG) (σ : gSt) (τ : Nat → Int64) (a0 a1 a2 : Int32) (D : Nat) (hD : σ 98 2 = nI D) (hD8 : D ≤ 8) : gI l yX10_tells cX10_tells 5 (some .int) 2 43 G [.ref (gAd G 96), .int a0, .int a1, .int a2] σ τ (if (mIn a0 0 (σ 98 1 - 1) = true ∧ mIn a1 0 (σ 98 0 - 1) = true ∧ mIn a2 0 (σ 98 0 - 1) = true) then rFirst (fun m => !(mRung σ (σ 104 16) a0 (nI m) a1 D == mRung σ (σ 104 16) a0 (nI m) a2 D)) 240 0 else -1) (if (mIn a0 0 (σ 98 1 - 1) = true ∧ mIn a1 0 (σ 98 0 - 1) = true ∧ mIn a2 0 (σ 98 0 - 1) = true) then mNowS σ else σ) τ := by
  refine gMet_of (by decide) (Nat.le_of_ble_eq_true rfl) ?_
  intro p e s m args below meth c C hr hlk ls hl hW
  have hx := C.1
  have hb := C.2.1
  have hl : lv_has ls 5 [(0, .ref (gAd G 96)), (1, .int a0), (2, .int a1), (3, .int a2)] := hl
  refine lv_aload_n hx hb dX10_tells_0 rfl (lv_at hl 0 rfl) ?_
  refine lv_iconst (v := 0) hx hb dX10_tells_1 (by decide) ?_
  refine gp_X10_62 C hW (by decide) rfl dX10_tells_2 (fun H locs hW => ?_)
  refine lv_aload_n hx hb dX10_tells_5 rfl (lv_at hl 0 rfl) ?_
  refine lv_iload_n hx hb dX10_tells_6 rfl (lv_at hl 1 rfl) ?_
  refine g_callvI (r := bI (mIn a0 0 (σ 98 1 - 1))) (σ' := σ) (rest := []) (As := [.int a0]) C hW kv_X10_136 96 (by decide) (gL_10 rfl) rfl (m_isPerson l G σ τ a0) ⟨Nat.le_of_ble_eq_true rfl, Nat.le_of_ble_eq_true rfl⟩ ⟨Nat.le_refl _, Nat.le_refl _⟩ rfl hl.1 rfl (Nat.le_of_ble_eq_true rfl) dX10_tells_7 (fun H locs hW => ?_)
  refine lv_if_eq (tgt := 29) hx hb dX10_tells_10 (by decide) (fun c_1 => ?_) (fun c_1 => ?_)
  · skip
    replace c_1 : (mIn a0 0 (σ 98 1 - 1)) = false := bI_eq0.mp c_1
    refine lv_iconst (v := (-1)) hx hb dX10_tells_29 (by decide) ?_
    exact g_iret C hr hlk hW dX10_tells_30 (by simp [c_1]) (by simp [c_1]) (rfl)
  · skip
    replace c_1 : (mIn a0 0 (σ 98 1 - 1)) = true := bI_ne0.mp c_1
    refine lv_aload_n hx hb dX10_tells_13 rfl (lv_at hl 0 rfl) ?_
    refine lv_iload_n hx hb dX10_tells_14 rfl (lv_at hl 2 rfl) ?_
    refine g_callvI (r := bI (mIn a1 0 (σ 98 0 - 1))) (σ' := σ) (rest := []) (As := [.int a1]) C hW kv_X10_155 96 (by decide) (gL_10 rfl) rfl (m_isPlace l G σ τ a1) ⟨Nat.le_of_ble_eq_true rfl, Nat.le_of_ble_eq_true rfl⟩ ⟨Nat.le_refl _, Nat.le_refl _⟩ rfl hl.1 rfl (Nat.le_of_ble_eq_true rfl) dX10_tells_15 (fun H locs hW => ?_)
    refine lv_if_eq (tgt := 29) hx hb dX10_tells_18 (by decide) (fun c_2 => ?_) (fun c_2 => ?_)
    · skip
      replace c_2 : (mIn a1 0 (σ 98 0 - 1)) = false := bI_eq0.mp c_2
      refine lv_iconst (v := (-1)) hx hb dX10_tells_29 (by decide) ?_
      exact g_iret C hr hlk hW dX10_tells_30 (by simp [c_1, c_2]) (by simp [c_1, c_2]) (rfl)
    · skip
      replace c_2 : (mIn a1 0 (σ 98 0 - 1)) = true := bI_ne0.mp c_2
      refine lv_aload_n hx hb dX10_tells_21 rfl (lv_at hl 0 rfl) ?_
      refine lv_iload_n hx hb dX10_tells_22 rfl (lv_at hl 3 rfl) ?_
      refine g_callvI (r := bI (mIn a2 0 (σ 98 0 - 1))) (σ' := σ) (rest := []) (As := [.int a2]) C hW kv_X10_155 96 (by decide) (gL_10 rfl) rfl (m_isPlace l G σ τ a2) ⟨Nat.le_of_ble_eq_true rfl, Nat.le_of_ble_eq_true rfl⟩ ⟨Nat.le_refl _, Nat.le_refl _⟩ rfl hl.1 rfl (Nat.le_of_ble_eq_true rfl) dX10_tells_23 (fun H locs hW => ?_)
      refine lv_if_ne (tgt := 31) hx hb dX10_tells_26 (by decide) (fun c_3 => ?_) (fun c_3 => ?_)
      · skip
        replace c_3 : (mIn a2 0 (σ 98 0 - 1)) = true := bI_ne0.mp c_3
        refine lv_aload_n hx hb dX10_tells_31 rfl (lv_at hl 0 rfl) ?_
        refine g_callvV (σ' := gu σ 96 25 (σ 104 16)) (rest := []) (As := []) C hW kv_X10_139 96 (by decide) (gL_10 rfl) rfl (m_asNow l G σ τ) ⟨Nat.le_of_ble_eq_true rfl, Nat.le_of_ble_eq_true rfl⟩ ⟨Nat.le_refl _, Nat.le_refl _⟩ rfl hl.1 rfl (Nat.le_of_ble_eq_true rfl) dX10_tells_32 (fun H locs hW => ?_)
        refine lv_iconst (v := 0) hx hb dX10_tells_35 (by decide) ?_
        refine lv_istore (lv' := [(4, .int 0), (0, .ref (gAd G 96)), (1, .int a0), (2, .int a1), (3, .int a2)]) hx hb dX10_tells_36 hl (by decide) rfl (fun ls hl => ?_)
        have L38 : ∀ (n : Nat) (m_ : Nat) (H : Heap) (locs : List Loc) (ls : Array Slot), n + m_ = 240 → rFirst (fun m => !(mRung σ (σ 104 16) a0 (nI m) a1 D == mRung σ (σ 104 16) a0 (nI m) a2 D)) n m_ = rFirst (fun m => !(mRung σ (σ 104 16) a0 (nI m) a1 D == mRung σ (σ 104 16) a0 (nI m) a2 D)) 240 0 → gW G s (gu σ 96 25 (σ 104 16)) τ H locs → lv_has ls 5 [(4, .int (nI m_)), (0, .ref (gAd G 96)), (1, .int a0), (2, .int a1), (3, .int a2)] → W p l e (gRm 2 43) s m args below meth c H locs 0 0 (MQ below (gQi G (if (mIn a0 0 (σ 98 1 - 1) = true ∧ mIn a1 0 (σ 98 0 - 1) = true ∧ mIn a2 0 (σ 98 0 - 1) = true) then rFirst (fun m => !(mRung σ (σ 104 16) a0 (nI m) a1 D == mRung σ (σ 104 16) a0 (nI m) a2 D)) 240 0 else -1) (if (mIn a0 0 (σ 98 1 - 1) = true ∧ mIn a1 0 (σ 98 0 - 1) = true ∧ mIn a2 0 (σ 98 0 - 1) = true) then mNowS σ else σ) τ) args s 0 0 (gA G)) (F0 m 38 ls []) := by
          intro n
          induction n with
          | zero =>
            intro m_ H locs ls hm hq hW hl
            refine lv_iload hx hb dX10_tells_38 (lv_at hl 0 rfl) ?_
            refine lv_sipush (v := 240) hx hb dX10_tells_40 (by decide) ?_
            refine lv_icmp_ge (tgt := 74) hx hb dX10_tells_43 (by decide) (fun _ => ?_) (fun zz => absurd (show nI 240 ≤ nI m_ from nI_le (by omega) (by omega)) zz)
            refine lv_bipush (v := (-9)) hx hb dX10_tells_74 (by decide) ?_
            exact g_iret C hr hlk hW dX10_tells_76 (by rw [if_pos ⟨c_1, c_2, c_3⟩, ← hq]; rfl) (by rw [if_pos ⟨c_1, c_2, c_3⟩]) (rfl)
          | succ n ih38 =>
            intro m_ H locs ls hm hq hW hl
            refine lv_iload hx hb dX10_tells_38 (lv_at hl 0 rfl) ?_
            refine lv_sipush (v := 240) hx hb dX10_tells_40 (by decide) ?_
            refine lv_icmp_ge (tgt := 74) hx hb dX10_tells_43 (by decide) (fun zz => absurd zz (show ¬ nI 240 ≤ nI m_ from nI_ge (by omega) (by omega))) (fun _ => ?_)
            refine lv_aload_n hx hb dX10_tells_46 rfl (lv_at hl 1 rfl) ?_
            refine lv_iload_n hx hb dX10_tells_47 rfl (lv_at hl 2 rfl) ?_
            refine lv_iload hx hb dX10_tells_48 (lv_at hl 0 rfl) ?_
            refine lv_iload_n hx hb dX10_tells_50 rfl (lv_at hl 3 rfl) ?_
            refine g_callvI (r := bI (mRung σ (σ 104 16) a0 (nI m_) a1 D)) (σ' := gu σ 96 25 (σ 104 16)) (rest := []) (As := [.int a0, .int (nI m_), .int a1]) C hW kv_X10_133 96 (by decide) (gL_10 rfl) rfl (m_isRung l G (gu σ 96 25 (σ 104 16)) τ a0 (nI m_) a1 D (hD) hD8) ⟨Nat.le_of_ble_eq_true rfl, Nat.le_of_ble_eq_true rfl⟩ ⟨Nat.le_refl _, Nat.le_refl _⟩ rfl hl.1 rfl (Nat.le_of_ble_eq_true rfl) dX10_tells_51 (fun H locs hW => ?_)
            refine lv_aload_n hx hb dX10_tells_54 rfl (lv_at hl 1 rfl) ?_
            refine lv_iload_n hx hb dX10_tells_55 rfl (lv_at hl 2 rfl) ?_
            refine lv_iload hx hb dX10_tells_56 (lv_at hl 0 rfl) ?_
            refine lv_iload_n hx hb dX10_tells_58 rfl (lv_at hl 4 rfl) ?_
            refine g_callvI (r := bI (mRung σ (σ 104 16) a0 (nI m_) a2 D)) (σ' := gu σ 96 25 (σ 104 16)) (rest := [.int (bI (mRung σ (σ 104 16) a0 (nI m_) a1 D))]) (As := [.int a0, .int (nI m_), .int a2]) C hW kv_X10_133 96 (by decide) (gL_10 rfl) rfl (m_isRung l G (gu σ 96 25 (σ 104 16)) τ a0 (nI m_) a2 D (hD) hD8) ⟨Nat.le_of_ble_eq_true rfl, Nat.le_of_ble_eq_true rfl⟩ ⟨Nat.le_refl _, Nat.le_refl _⟩ rfl hl.1 rfl (Nat.le_of_ble_eq_true rfl) dX10_tells_59 (fun H locs hW => ?_)
            refine lv_icmp_eq (tgt := 68) hx hb dX10_tells_62 (by decide) (fun c_4 => ?_) (fun c_4 => ?_)
            · skip
              refine lv_iinc (v := nI (m_ + 1)) (lv' := [(4, .int (nI (m_ + 1))), (0, .ref (gAd G 96)), (1, .int a0), (2, .int a1), (3, .int a2)]) hx hb dX10_tells_68 hl (k := 0) rfl (nI_1 _) (by decide) rfl (fun ls hl => ?_)
              refine lv_goto (tgt := 38) hx hb dX10_tells_71 (by decide) ?_
              exact ih38 (m_ + 1) _ _ _ (by omega) (by rw [← hq, rFirst, if_neg (by simp [bI_inj.mp c_4])]) hW (lv_sub hl [0, 1, 2, 3, 4] rfl)
            · skip
              refine lv_iload hx hb dX10_tells_65 (lv_at hl 0 rfl) ?_
              exact g_iret C hr hlk hW dX10_tells_67 (by rw [if_pos ⟨c_1, c_2, c_3⟩, ← hq, rFirst, if_pos (by simpa using fun z => c_4 (bI_inj.mpr z))]) (by rw [if_pos ⟨c_1, c_2, c_3⟩]) (rfl)
        exact L38 240 0 _ _ _ (by omega) rfl hW (lv_sub hl [0, 1, 2, 3, 4] rfl)
      · skip
        replace c_3 : (mIn a2 0 (σ 98 0 - 1)) = false := bI_eq0.mp c_3
        refine lv_iconst (v := (-1)) hx hb dX10_tells_29 (by decide) ?_
        exact g_iret C hr hlk hW dX10_tells_30 (by simp [c_1, c_2, c_3]) (by simp [c_1, c_2, c_3]) (rfl)
set_option maxHeartbeats 4000000 in
set_option maxRecDepth 100000 in
theorem m_trace (l : Launch) (G : gG) (σ : gSt) (τ : Nat → Int64) : gJ l yX10_trace cX10_trace 1 (some .long) 0 0 G [.ref (gAd G 96)] σ τ (τ 96) σ τ := by
  refine gMet_of (by decide) (Nat.le_of_ble_eq_true rfl) ?_
  intro p e s m args below meth c C hr hlk ls hl hW
  have hx := C.1
  have hb := C.2.1
  have hl : lv_has ls 1 [(0, .ref (gAd G 96))] := hl
  refine lv_aload_n hx hb dX10_trace_0 rfl (lv_at hl 0 rfl) ?_
  refine lv_iconst (v := 0) hx hb dX10_trace_1 (by decide) ?_
  refine gp_X10_62 C hW (by decide) rfl dX10_trace_2 (fun H locs hW => ?_)
  refine lv_aload_n hx hb dX10_trace_5 rfl (lv_at hl 0 rfl) ?_
  refine gf_X10_188 C hW (by decide) rfl dX10_trace_6 ?_
  exact g_lret C hr hlk hW dX10_trace_9 (by simp [bI]) (rfl) (rfl)
set_option maxHeartbeats 4000000 in
set_option maxRecDepth 100000 in
theorem m_count (l : Launch) (G : gG) (σ : gSt) (τ : Nat → Int64) (a0 : Int32) : gI l yX10_count cX10_count 2 (some .int) 1 22 G [.ref (gAd G 96), .int a0] σ τ (if mIn a0 0 4 = true then σ 98 a0.toNatClampNeg else if a0 = 5 then σ 96 24 else if a0 = 6 then σ 96 3 else -1) σ τ := by
  refine gMet_of (by decide) (Nat.le_of_ble_eq_true rfl) ?_
  intro p e s m args below meth c C hr hlk ls hl hW
  have hx := C.1
  have hb := C.2.1
  have hl : lv_has ls 2 [(0, .ref (gAd G 96)), (1, .int a0)] := hl
  refine lv_aload_n hx hb dX10_count_0 rfl (lv_at hl 0 rfl) ?_
  refine lv_iconst (v := 0) hx hb dX10_count_1 (by decide) ?_
  refine gp_X10_62 C hW (by decide) rfl dX10_count_2 (fun H locs hW => ?_)
  refine lv_iload_n hx hb dX10_count_5 rfl (lv_at hl 1 rfl) ?_
  refine lv_iconst (v := 0) hx hb dX10_count_6 (by decide) ?_
  refine lv_iconst (v := 4) hx hb dX10_count_7 (by decide) ?_
  refine g_callsI (r := bI (mIn a0 0 4)) (σ' := σ) (rest := []) (As := [.int a0, .int 0, .int 4]) C hW ks_X10_66 (m_in l G σ τ a0 0 4) ⟨Nat.le_of_ble_eq_true rfl, Nat.le_of_ble_eq_true rfl⟩ ⟨Nat.le_refl _, Nat.le_refl _⟩ rfl hl.1 rfl (Nat.le_of_ble_eq_true rfl) dX10_count_8 (fun H locs hW => ?_)
  refine lv_if_eq (tgt := 23) hx hb dX10_count_11 (by decide) (fun c_1 => ?_) (fun c_1 => ?_)
  · skip
    replace c_1 : (mIn a0 0 4) = false := bI_eq0.mp c_1
    refine lv_iload_n hx hb dX10_count_23 rfl (lv_at hl 1 rfl) ?_
    refine lv_iconst (v := 5) hx hb dX10_count_24 (by decide) ?_
    refine lv_icmp_ne (tgt := 35) hx hb dX10_count_25 (by decide) (fun c_2 => ?_) (fun c_2 => ?_)
    · skip
      refine lv_iload_n hx hb dX10_count_35 rfl (lv_at hl 1 rfl) ?_
      refine lv_bipush (v := 6) hx hb dX10_count_36 (by decide) ?_
      refine lv_icmp_ne (tgt := 48) hx hb dX10_count_38 (by decide) (fun c_3 => ?_) (fun c_3 => ?_)
      · skip
        refine lv_iconst (v := (-1)) hx hb dX10_count_48 (by decide) ?_
        exact g_iret C hr hlk hW dX10_count_49 (by rw [if_neg (bneg c_1), if_neg c_2, if_neg c_3]) (rfl) (rfl)
      · skip
        refine lv_aload_n hx hb dX10_count_41 rfl (lv_at hl 0 rfl) ?_
        refine gf_X10_70 (v := σ 96 3) C hW (by decide) rfl rfl dX10_count_42 ?_
        refine lv_goto (tgt := 49) hx hb dX10_count_45 (by decide) ?_
        exact g_iret C hr hlk hW dX10_count_49 (by rw [if_neg (bneg c_1), if_neg c_2, if_pos c_3]) (rfl) (rfl)
    · skip
      refine lv_aload_n hx hb dX10_count_28 rfl (lv_at hl 0 rfl) ?_
      refine gf_X10_121 (v := σ 96 24) C hW (by decide) rfl rfl dX10_count_29 ?_
      refine lv_goto (tgt := 49) hx hb dX10_count_32 (by decide) ?_
      exact g_iret C hr hlk hW dX10_count_49 (by rw [if_neg (bneg c_1), if_pos c_2]) (rfl) (rfl)
  · skip
    replace c_1 : (mIn a0 0 4) = true := bI_ne0.mp c_1
    have hp := in4_nat c_1
    refine lv_aload_n hx hb dX10_count_14 rfl (lv_at hl 0 rfl) ?_
    refine gf_X10_13 C hW (by decide) rfl dX10_count_15 ?_
    refine lv_iload_n hx hb dX10_count_18 rfl (lv_at hl 1 rfl) ?_
    refine g_ald (v := σ 98 a0.toNatClampNeg) a0.toNatClampNeg C hW (by decide) rfl hp.1 (show a0.toNatClampNeg < 10 by omega) (by decide) rfl dX10_count_19 ?_
    refine lv_goto (tgt := 49) hx hb dX10_count_20 (by decide) ?_
    exact g_iret C hr hlk hW dX10_count_49 (by rw [if_pos c_1]) (rfl) (rfl)
set_option maxHeartbeats 4000000 in
set_option maxRecDepth 100000 in
theorem m_keep (l : Launch) (G : gG) (σ : gSt) (τ : Nat → Int64) (a0 : Int32) : gI l yX10_keep cX10_keep 3 (some .int) 1 22 G [.ref (gAd G 96), .int a0] σ τ (if mIn a0 0 1 = true then σ 104 15 else -1) (if mIn a0 0 1 = true then gu (gcp 105 104 (25 * a0.toNatClampNeg) 0 σ 25) 106 a0.toNatClampNeg 1 else σ) τ := by
  refine gMet_of (by decide) (Nat.le_of_ble_eq_true rfl) ?_
  intro p e s m args below meth c C hr hlk ls hl hW
  have hx := C.1
  have hb := C.2.1
  have hl : lv_has ls 3 [(0, .ref (gAd G 96)), (1, .int a0)] := hl
  refine lv_aload_n hx hb dX10_keep_0 rfl (lv_at hl 0 rfl) ?_
  refine lv_iconst (v := 0) hx hb dX10_keep_1 (by decide) ?_
  refine gp_X10_62 C hW (by decide) rfl dX10_keep_2 (fun H locs hW => ?_)
  refine lv_iload_n hx hb dX10_keep_5 rfl (lv_at hl 1 rfl) ?_
  refine lv_iconst (v := 0) hx hb dX10_keep_6 (by decide) ?_
  refine lv_iconst (v := 1) hx hb dX10_keep_7 (by decide) ?_
  refine g_callsI (r := bI (mIn a0 0 1)) (σ' := σ) (rest := []) (As := [.int a0, .int 0, .int 1]) C hW ks_X10_66 (m_in l G σ τ a0 0 1) ⟨Nat.le_of_ble_eq_true rfl, Nat.le_of_ble_eq_true rfl⟩ ⟨Nat.le_refl _, Nat.le_refl _⟩ rfl hl.1 rfl (Nat.le_of_ble_eq_true rfl) dX10_keep_8 (fun H locs hW => ?_)
  refine lv_if_ne (tgt := 16) hx hb dX10_keep_11 (by decide) (fun c_1 => ?_) (fun c_1 => ?_)
  · skip
    replace c_1 : (mIn a0 0 1) = true := bI_ne0.mp c_1
    have hp := in1_nat c_1
    refine lv_iconst (v := 0) hx hb dX10_keep_16 (by decide) ?_
    refine lv_istore_n (lv' := [(2, .int 0), (0, .ref (gAd G 96)), (1, .int a0)]) hx hb dX10_keep_17 rfl hl (by decide) rfl (fun ls hl => ?_)
    have L18 : ∀ (n : Nat) (k : Nat) (H : Heap) (locs : List Loc) (ls : Array Slot), n + k = 25 → gW G s (gcp 105 104 (25 * a0.toNatClampNeg) 0 σ k) τ H locs → lv_has ls 3 [(2, .int (nI k)), (0, .ref (gAd G 96)), (1, .int a0)] → W p l e (gRm 1 22) s m args below meth c H locs 0 0 (MQ below (gQi G (if mIn a0 0 1 = true then σ 104 15 else -1) (if mIn a0 0 1 = true then gu (gcp 105 104 (25 * a0.toNatClampNeg) 0 σ 25) 106 a0.toNatClampNeg 1 else σ) τ) args s 0 0 (gA G)) (F0 m 18 ls []) := by
      intro n
      induction n with
      | zero =>
        intro k H locs ls hm hW hl
        refine lv_iload_n hx hb dX10_keep_18 rfl (lv_at hl 0 rfl) ?_
        refine lv_bipush (v := 25) hx hb dX10_keep_19 (by decide) ?_
        refine lv_icmp_ge (tgt := 47) hx hb dX10_keep_21 (by decide) (fun _ => ?_) (fun zz => absurd (show nI 25 ≤ nI k from nI_le (by omega) (by omega)) zz)
        refine lv_aload_n hx hb dX10_keep_47 rfl (lv_at hl 1 rfl) ?_
        refine gf_X10_37 C hW (by decide) rfl dX10_keep_48 ?_
        refine lv_iload_n hx hb dX10_keep_51 rfl (lv_at hl 2 rfl) ?_
        refine lv_iconst (v := 1) hx hb dX10_keep_52 (by decide) ?_
        refine g_zast a0.toNatClampNeg C hW (by decide) rfl hp.1 (show a0.toNatClampNeg < 2 by omega) (by decide) rfl dX10_keep_53 (fun H locs hW => ?_)
        refine lv_aload_n hx hb dX10_keep_54 rfl (lv_at hl 1 rfl) ?_
        refine gf_X10_31 C hW (by decide) rfl dX10_keep_55 ?_
        refine lv_bipush (v := 15) hx hb dX10_keep_58 (by decide) ?_
        refine g_ald (v := (gcp 105 104 (25 * a0.toNatClampNeg) 0 σ k) 104 15) 15 C hW (by decide) rfl rfl (by decide) (by decide) rfl dX10_keep_60 ?_
        exact g_iret C hr hlk hW dX10_keep_61 (by rw [if_pos c_1, gcp_ne (by decide)]) (by rw [if_pos c_1, show k = 25 by omega]) (rfl)
      | succ n ih18 =>
        intro k H locs ls hm hW hl
        refine lv_iload_n hx hb dX10_keep_18 rfl (lv_at hl 0 rfl) ?_
        refine lv_bipush (v := 25) hx hb dX10_keep_19 (by decide) ?_
        refine lv_icmp_ge (tgt := 47) hx hb dX10_keep_21 (by decide) (fun zz => absurd zz (show ¬ nI 25 ≤ nI k from nI_ge (by omega) (by omega))) (fun _ => ?_)
        refine lv_aload_n hx hb dX10_keep_24 rfl (lv_at hl 1 rfl) ?_
        refine gf_X10_34 C hW (by decide) rfl dX10_keep_25 ?_
        refine lv_bipush (v := 25) hx hb dX10_keep_28 (by decide) ?_
        refine lv_iload_n hx hb dX10_keep_30 rfl (lv_at hl 2 rfl) ?_
        refine lv_imul hx hb dX10_keep_31 ?_
        refine lv_iload_n hx hb dX10_keep_32 rfl (lv_at hl 0 rfl) ?_
        refine lv_iadd hx hb dX10_keep_33 ?_
        refine lv_aload_n hx hb dX10_keep_34 rfl (lv_at hl 1 rfl) ?_
        refine gf_X10_31 C hW (by decide) rfl dX10_keep_35 ?_
        refine lv_iload_n hx hb dX10_keep_38 rfl (lv_at hl 0 rfl) ?_
        refine g_ald (v := (gcp 105 104 (25 * a0.toNatClampNeg) 0 σ k) 104 k) k C hW (by decide) rfl rfl (show k < 25 by omega) (by decide) rfl dX10_keep_39 ?_
        refine g_ast ((25 * a0.toNatClampNeg) + k) C hW (by decide) rfl (gadd (gmul (rfl : 25 = nI 25) hp.1) (rfl : nI k = nI k)) (show ((25 * a0.toNatClampNeg) + k) < 50 by omega) (by decide) dX10_keep_40 (fun H locs hW => ?_)
        refine lv_iinc (v := nI (k + 1)) (lv' := [(2, .int (nI (k + 1))), (0, .ref (gAd G 96)), (1, .int a0)]) hx hb dX10_keep_41 hl (k := 0) rfl (nI_1 _) (by decide) rfl (fun ls hl => ?_)
        refine lv_goto (tgt := 18) hx hb dX10_keep_44 (by decide) ?_
        exact ih18 (k + 1) _ _ _ (by omega)  (by simpa [gcp] using hW) (lv_sub hl [0, 1, 2] rfl)
    exact L18 25 0 _ _ _ (by omega)  hW (lv_sub hl [0, 1, 2] rfl)
  · skip
    replace c_1 : (mIn a0 0 1) = false := bI_eq0.mp c_1
    refine lv_iconst (v := (-1)) hx hb dX10_keep_14 (by decide) ?_
    exact g_iret C hr hlk hW dX10_keep_15 (by simp [c_1]) (by simp [c_1]) (rfl)
set_option maxHeartbeats 4000000 in
set_option maxRecDepth 100000 in
theorem m_back (l : Launch) (G : gG) (σ : gSt) (τ : Nat → Int64) (a0 : Int32) : gI l yX10_back cX10_back 3 (some .int) 1 22 G [.ref (gAd G 96), .int a0] σ τ (if mIn a0 0 1 = true then (if σ 106 a0.toNatClampNeg = 0 then -2 else gcp 104 105 0 (25 * a0.toNatClampNeg) σ 25 104 15) else -1) (if mIn a0 0 1 = true then (if σ 106 a0.toNatClampNeg = 0 then σ else gu (gcp 104 105 0 (25 * a0.toNatClampNeg) σ 25) 96 20 0) else σ) τ := by
  refine gMet_of (by decide) (Nat.le_of_ble_eq_true rfl) ?_
  intro p e s m args below meth c C hr hlk ls hl hW
  have hx := C.1
  have hb := C.2.1
  have hl : lv_has ls 3 [(0, .ref (gAd G 96)), (1, .int a0)] := hl
  refine lv_aload_n hx hb dX10_back_0 rfl (lv_at hl 0 rfl) ?_
  refine lv_iconst (v := 0) hx hb dX10_back_1 (by decide) ?_
  refine gp_X10_62 C hW (by decide) rfl dX10_back_2 (fun H locs hW => ?_)
  refine lv_iload_n hx hb dX10_back_5 rfl (lv_at hl 1 rfl) ?_
  refine lv_iconst (v := 0) hx hb dX10_back_6 (by decide) ?_
  refine lv_iconst (v := 1) hx hb dX10_back_7 (by decide) ?_
  refine g_callsI (r := bI (mIn a0 0 1)) (σ' := σ) (rest := []) (As := [.int a0, .int 0, .int 1]) C hW ks_X10_66 (m_in l G σ τ a0 0 1) ⟨Nat.le_of_ble_eq_true rfl, Nat.le_of_ble_eq_true rfl⟩ ⟨Nat.le_refl _, Nat.le_refl _⟩ rfl hl.1 rfl (Nat.le_of_ble_eq_true rfl) dX10_back_8 (fun H locs hW => ?_)
  refine lv_if_ne (tgt := 16) hx hb dX10_back_11 (by decide) (fun c_1 => ?_) (fun c_1 => ?_)
  · skip
    replace c_1 : (mIn a0 0 1) = true := bI_ne0.mp c_1
    have hp := in1_nat c_1
    refine lv_aload_n hx hb dX10_back_16 rfl (lv_at hl 0 rfl) ?_
    refine gf_X10_37 C hW (by decide) rfl dX10_back_17 ?_
    refine lv_iload_n hx hb dX10_back_20 rfl (lv_at hl 1 rfl) ?_
    refine g_zald (v := σ 106 a0.toNatClampNeg) a0.toNatClampNeg C hW (by decide) rfl hp.1 (show a0.toNatClampNeg < 2 by omega) (by decide) rfl dX10_back_21 ?_
    refine lv_if_ne (tgt := 28) hx hb dX10_back_22 (by decide) (fun c_2 => ?_) (fun c_2 => ?_)
    · skip
      refine lv_iconst (v := 0) hx hb dX10_back_28 (by decide) ?_
      refine lv_istore_n (lv' := [(2, .int 0), (0, .ref (gAd G 96)), (1, .int a0)]) hx hb dX10_back_29 rfl hl (by decide) rfl (fun ls hl => ?_)
      have L30 : ∀ (n : Nat) (k : Nat) (H : Heap) (locs : List Loc) (ls : Array Slot), n + k = 25 → gW G s (gcp 104 105 0 (25 * a0.toNatClampNeg) σ k) τ H locs → lv_has ls 3 [(2, .int (nI k)), (0, .ref (gAd G 96)), (1, .int a0)] → W p l e (gRm 1 22) s m args below meth c H locs 0 0 (MQ below (gQi G (if mIn a0 0 1 = true then (if σ 106 a0.toNatClampNeg = 0 then -2 else gcp 104 105 0 (25 * a0.toNatClampNeg) σ 25 104 15) else -1) (if mIn a0 0 1 = true then (if σ 106 a0.toNatClampNeg = 0 then σ else gu (gcp 104 105 0 (25 * a0.toNatClampNeg) σ 25) 96 20 0) else σ) τ) args s 0 0 (gA G)) (F0 m 30 ls []) := by
        intro n
        induction n with
        | zero =>
          intro k H locs ls hm hW hl
          refine lv_iload_n hx hb dX10_back_30 rfl (lv_at hl 0 rfl) ?_
          refine lv_bipush (v := 25) hx hb dX10_back_31 (by decide) ?_
          refine lv_icmp_ge (tgt := 59) hx hb dX10_back_33 (by decide) (fun _ => ?_) (fun zz => absurd (show nI 25 ≤ nI k from nI_le (by omega) (by omega)) zz)
          refine lv_aload_n hx hb dX10_back_59 rfl (lv_at hl 1 rfl) ?_
          refine lv_iconst (v := 0) hx hb dX10_back_60 (by decide) ?_
          refine gp_X10_124 C hW (by decide) rfl dX10_back_61 (fun H locs hW => ?_)
          refine lv_aload_n hx hb dX10_back_64 rfl (lv_at hl 1 rfl) ?_
          refine gf_X10_31 C hW (by decide) rfl dX10_back_65 ?_
          refine lv_bipush (v := 15) hx hb dX10_back_68 (by decide) ?_
          refine g_ald (v := (gcp 104 105 0 (25 * a0.toNatClampNeg) σ k) 104 15) 15 C hW (by decide) rfl rfl (by decide) (by decide) rfl dX10_back_70 ?_
          exact g_iret C hr hlk hW dX10_back_71 (by rw [if_pos c_1, if_neg c_2, show k = 25 by omega]) (by rw [if_pos c_1, if_neg c_2, show k = 25 by omega]) (rfl)
        | succ n ih30 =>
          intro k H locs ls hm hW hl
          refine lv_iload_n hx hb dX10_back_30 rfl (lv_at hl 0 rfl) ?_
          refine lv_bipush (v := 25) hx hb dX10_back_31 (by decide) ?_
          refine lv_icmp_ge (tgt := 59) hx hb dX10_back_33 (by decide) (fun zz => absurd zz (show ¬ nI 25 ≤ nI k from nI_ge (by omega) (by omega))) (fun _ => ?_)
          refine lv_aload_n hx hb dX10_back_36 rfl (lv_at hl 1 rfl) ?_
          refine gf_X10_31 C hW (by decide) rfl dX10_back_37 ?_
          refine lv_iload_n hx hb dX10_back_40 rfl (lv_at hl 0 rfl) ?_
          refine lv_aload_n hx hb dX10_back_41 rfl (lv_at hl 1 rfl) ?_
          refine gf_X10_34 C hW (by decide) rfl dX10_back_42 ?_
          refine lv_bipush (v := 25) hx hb dX10_back_45 (by decide) ?_
          refine lv_iload_n hx hb dX10_back_47 rfl (lv_at hl 2 rfl) ?_
          refine lv_imul hx hb dX10_back_48 ?_
          refine lv_iload_n hx hb dX10_back_49 rfl (lv_at hl 0 rfl) ?_
          refine lv_iadd hx hb dX10_back_50 ?_
          refine g_ald (v := (gcp 104 105 0 (25 * a0.toNatClampNeg) σ k) 105 ((25 * a0.toNatClampNeg) + k)) ((25 * a0.toNatClampNeg) + k) C hW (by decide) rfl (gadd (gmul (rfl : 25 = nI 25) hp.1) (rfl : nI k = nI k)) (show ((25 * a0.toNatClampNeg) + k) < 50 by omega) (by decide) rfl dX10_back_51 ?_
          refine g_ast k C hW (by decide) rfl rfl (show k < 25 by omega) (by decide) dX10_back_52 (fun H locs hW => ?_)
          refine lv_iinc (v := nI (k + 1)) (lv' := [(2, .int (nI (k + 1))), (0, .ref (gAd G 96)), (1, .int a0)]) hx hb dX10_back_53 hl (k := 0) rfl (nI_1 _) (by decide) rfl (fun ls hl => ?_)
          refine lv_goto (tgt := 30) hx hb dX10_back_56 (by decide) ?_
          exact ih30 (k + 1) _ _ _ (by omega)  (by simpa [gcp] using hW) (lv_sub hl [0, 1, 2] rfl)
      exact L30 25 0 _ _ _ (by omega)  hW (lv_sub hl [0, 1, 2] rfl)
    · skip
      refine lv_bipush (v := (-2)) hx hb dX10_back_25 (by decide) ?_
      exact g_iret C hr hlk hW dX10_back_27 (by simp [c_1, c_2]) (by simp [c_1, c_2]) (rfl)
  · skip
    replace c_1 : (mIn a0 0 1) = false := bI_eq0.mp c_1
    refine lv_iconst (v := (-1)) hx hb dX10_back_14 (by decide) ?_
    exact g_iret C hr hlk hW dX10_back_15 (by simp [c_1]) (by simp [c_1]) (rfl)
set_option maxHeartbeats 4000000 in
set_option maxRecDepth 100000 in
theorem m_rate (l : Launch) (G : gG) (σ : gSt) (τ : Nat → Int64) (a0 a1 : Int32) (D : Nat) (hD : σ 98 2 = nI D) (hD8 : D ≤ 8) (how : ∀ d, d < D → ∃ w, w < 5 ∧ σ 104 (17 + d) = nI w) : gI l yX10_rate cX10_rate 6 (some .int) 2 43 G [.ref (gAd G 96), .int a0, .int a1] σ τ (if (mIn a0 0 5 = true ∧ mIn a1 0 (σ 98 2 - 1) = true) then (if a0 = 0 then σ 103 a1.toNatClampNeg else if a0 = 1 then σ 103 a1.toNatClampNeg + σ 101 a1.toNatClampNeg else if a0 = 2 then (σ 103 a1.toNatClampNeg - (if (σ 104 16 >>> (a1 &&& 31)) &&& 1 = 1 then 7 else 0)) else if a0 = 3 then 2 * (σ 103 a1.toNatClampNeg + σ 101 a1.toNatClampNeg) else if a0 = 4 then (σ 103 a1.toNatClampNeg - (if (σ 104 16 >>> (a1 &&& 31)) &&& 1 = 1 then 7 else 0)) + a1 else σ 103 a1.toNatClampNeg + σ 104 (10 + (σ 104 (17 + a1.toNatClampNeg)).toNatClampNeg)) else -1000000) σ (if (mIn a0 0 5 = true ∧ mIn a1 0 (σ 98 2 - 1) = true) then va_up τ 96 (τ 96 + rTraceAdd a0) else τ) := by
  refine gMet_of (by decide) (Nat.le_of_ble_eq_true rfl) ?_
  intro p e s m args below meth c C hr hlk ls hl hW
  have hx := C.1
  have hb := C.2.1
  have hl : lv_has ls 6 [(0, .ref (gAd G 96)), (1, .int a0), (2, .int a1)] := hl
  refine lv_aload_n hx hb dX10_rate_0 rfl (lv_at hl 0 rfl) ?_
  refine lv_iconst (v := 0) hx hb dX10_rate_1 (by decide) ?_
  refine gp_X10_62 C hW (by decide) rfl dX10_rate_2 (fun H locs hW => ?_)
  refine lv_iload_n hx hb dX10_rate_5 rfl (lv_at hl 1 rfl) ?_
  refine lv_iconst (v := 0) hx hb dX10_rate_6 (by decide) ?_
  refine lv_iconst (v := 5) hx hb dX10_rate_7 (by decide) ?_
  refine g_callsI (r := bI (mIn a0 0 5)) (σ' := σ) (rest := []) (As := [.int a0, .int 0, .int 5]) C hW ks_X10_66 (m_in l G σ τ a0 0 5) ⟨Nat.le_of_ble_eq_true rfl, Nat.le_of_ble_eq_true rfl⟩ ⟨Nat.le_refl _, Nat.le_refl _⟩ rfl hl.1 rfl (Nat.le_of_ble_eq_true rfl) dX10_rate_8 (fun H locs hW => ?_)
  refine lv_if_eq (tgt := 22) hx hb dX10_rate_11 (by decide) (fun c_1 => ?_) (fun c_1 => ?_)
  · skip
    replace c_1 : (mIn a0 0 5) = false := bI_eq0.mp c_1
    refine lv_ldc (v := (-1000000)) hx hb C.2.2.2.1 (C.2.2.2.2.1 _ kcn_X10_187) dX10_rate_22 ?_
    exact g_iret C hr hlk hW dX10_rate_24 (by simp [c_1]) (rfl) (by simp [c_1])
  · skip
    replace c_1 : (mIn a0 0 5) = true := bI_ne0.mp c_1
    refine lv_aload_n hx hb dX10_rate_14 rfl (lv_at hl 0 rfl) ?_
    refine lv_iload_n hx hb dX10_rate_15 rfl (lv_at hl 2 rfl) ?_
    refine g_callvI (r := bI (mIn a1 0 (σ 98 2 - 1))) (σ' := σ) (rest := []) (As := [.int a1]) C hW kv_X10_142 96 (by decide) (gL_10 rfl) rfl (m_isDuty l G σ τ a1) ⟨Nat.le_of_ble_eq_true rfl, Nat.le_of_ble_eq_true rfl⟩ ⟨Nat.le_refl _, Nat.le_refl _⟩ rfl hl.1 rfl (Nat.le_of_ble_eq_true rfl) dX10_rate_16 (fun H locs hW => ?_)
    refine lv_if_ne (tgt := 25) hx hb dX10_rate_19 (by decide) (fun c_2 => ?_) (fun c_2 => ?_)
    · skip
      replace c_2 : (mIn a1 0 (σ 98 2 - 1)) = true := bI_ne0.mp c_2
      have hp0 := c_2
      rw [hD] at hp0
      have hp := mIn_nat (N := D) hp0 (by omega)
      refine lv_aload_n hx hb dX10_rate_25 rfl (lv_at hl 0 rfl) ?_
      refine gf_X10_28 C hW (by decide) rfl dX10_rate_26 ?_
      refine lv_iload_n hx hb dX10_rate_29 rfl (lv_at hl 2 rfl) ?_
      refine g_ald (v := σ 103 a1.toNatClampNeg) a1.toNatClampNeg C hW (by decide) rfl hp.1 (show a1.toNatClampNeg < 16 by omega) (by decide) rfl dX10_rate_30 ?_
      refine lv_istore_n (lv' := [(3, .int (σ 103 a1.toNatClampNeg)), (0, .ref (gAd G 96)), (1, .int a0), (2, .int a1)]) hx hb dX10_rate_31 rfl hl (by decide) rfl (fun ls hl => ?_)
      refine lv_iload_n hx hb dX10_rate_32 rfl (lv_at hl 0 rfl) ?_
      refine lv_aload_n hx hb dX10_rate_33 rfl (lv_at hl 1 rfl) ?_
      refine gf_X10_22 C hW (by decide) rfl dX10_rate_34 ?_
      refine lv_iload_n hx hb dX10_rate_37 rfl (lv_at hl 3 rfl) ?_
      refine g_ald (v := σ 101 a1.toNatClampNeg) a1.toNatClampNeg C hW (by decide) rfl hp.1 (show a1.toNatClampNeg < 16 by omega) (by decide) rfl dX10_rate_38 ?_
      refine lv_iadd hx hb dX10_rate_39 ?_
      refine lv_istore (lv' := [(4, .int ((σ 103 a1.toNatClampNeg) + (σ 101 a1.toNatClampNeg))), (3, .int (σ 103 a1.toNatClampNeg)), (0, .ref (gAd G 96)), (1, .int a0), (2, .int a1)]) hx hb dX10_rate_40 hl (by decide) rfl (fun ls hl => ?_)
      have K64 : ∀ (z : Int32), z = (if (σ 104 16 >>> (a1 &&& 31)) &&& 1 = 1 then 7 else 0) → ∀ (H : Heap) (locs : List Loc) (ls : Array Slot), gW G s σ τ H locs → lv_has ls 6 [(4, .int ((σ 103 a1.toNatClampNeg) + (σ 101 a1.toNatClampNeg))), (3, .int (σ 103 a1.toNatClampNeg)), (0, .ref (gAd G 96)), (1, .int a0), (2, .int a1)] → W p l e (gRm 2 43) s m args below meth c H locs 0 0 (MQ below (gQi G (if (mIn a0 0 5 = true ∧ mIn a1 0 (σ 98 2 - 1) = true) then (if a0 = 0 then σ 103 a1.toNatClampNeg else if a0 = 1 then σ 103 a1.toNatClampNeg + σ 101 a1.toNatClampNeg else if a0 = 2 then (σ 103 a1.toNatClampNeg - (if (σ 104 16 >>> (a1 &&& 31)) &&& 1 = 1 then 7 else 0)) else if a0 = 3 then 2 * (σ 103 a1.toNatClampNeg + σ 101 a1.toNatClampNeg) else if a0 = 4 then (σ 103 a1.toNatClampNeg - (if (σ 104 16 >>> (a1 &&& 31)) &&& 1 = 1 then 7 else 0)) + a1 else σ 103 a1.toNatClampNeg + σ 104 (10 + (σ 104 (17 + a1.toNatClampNeg)).toNatClampNeg)) else -1000000) σ (if (mIn a0 0 5 = true ∧ mIn a1 0 (σ 98 2 - 1) = true) then va_up τ 96 (τ 96 + rTraceAdd a0) else τ)) args s 0 0 (gA G)) (F0 m 64 ls [.int z, .int (σ 103 a1.toNatClampNeg)]) := by
        intro z hz H locs ls hW hl
        refine lv_isub hx hb dX10_rate_64 ?_
        refine lv_istore (lv' := [(5, .int ((σ 103 a1.toNatClampNeg) - z)), (4, .int ((σ 103 a1.toNatClampNeg) + (σ 101 a1.toNatClampNeg))), (3, .int (σ 103 a1.toNatClampNeg)), (0, .ref (gAd G 96)), (1, .int a0), (2, .int a1)]) hx hb dX10_rate_65 hl (by decide) rfl (fun ls hl => ?_)
        refine lv_aload_n hx hb dX10_rate_67 rfl (lv_at hl 3 rfl) ?_
        refine lv_dup hx hb dX10_rate_68 rfl ?_
        refine gf_X10_188 C hW (by decide) rfl dX10_rate_69 ?_
        have K127 : ∀ (jz : Int64), jz = (rTraceAdd a0) → ∀ (H : Heap) (locs : List Loc) (ls : Array Slot), gW G s σ τ H locs → lv_has ls 6 [(5, .int ((σ 103 a1.toNatClampNeg) - z)), (4, .int ((σ 103 a1.toNatClampNeg) + (σ 101 a1.toNatClampNeg))), (3, .int (σ 103 a1.toNatClampNeg)), (0, .ref (gAd G 96)), (1, .int a0), (2, .int a1)] → W p l e (gRm 2 43) s m args below meth c H locs 0 0 (MQ below (gQi G (if (mIn a0 0 5 = true ∧ mIn a1 0 (σ 98 2 - 1) = true) then (if a0 = 0 then σ 103 a1.toNatClampNeg else if a0 = 1 then σ 103 a1.toNatClampNeg + σ 101 a1.toNatClampNeg else if a0 = 2 then (σ 103 a1.toNatClampNeg - (if (σ 104 16 >>> (a1 &&& 31)) &&& 1 = 1 then 7 else 0)) else if a0 = 3 then 2 * (σ 103 a1.toNatClampNeg + σ 101 a1.toNatClampNeg) else if a0 = 4 then (σ 103 a1.toNatClampNeg - (if (σ 104 16 >>> (a1 &&& 31)) &&& 1 = 1 then 7 else 0)) + a1 else σ 103 a1.toNatClampNeg + σ 104 (10 + (σ 104 (17 + a1.toNatClampNeg)).toNatClampNeg)) else -1000000) σ (if (mIn a0 0 5 = true ∧ mIn a1 0 (σ 98 2 - 1) = true) then va_up τ 96 (τ 96 + rTraceAdd a0) else τ)) args s 0 0 (gA G)) (F0 m 127 ls [.long jz, .long (τ 96), .ref (gAd G 96)]) := by
          intro jz hjz H locs ls hW hl
          refine lv_ladd hx hb dX10_rate_127 ?_
          refine gp_X10_188 C hW (by decide) rfl dX10_rate_128 (fun H locs hW => ?_)
          refine lv_iload_n hx hb dX10_rate_131 rfl (lv_at hl 4 rfl) ?_
          refine lv_if_ne (tgt := 139) hx hb dX10_rate_132 (by decide) (fun c_3 => ?_) (fun c_3 => ?_)
          · skip
            refine lv_iload_n hx hb dX10_rate_139 rfl (lv_at hl 4 rfl) ?_
            refine lv_iconst (v := 1) hx hb dX10_rate_140 (by decide) ?_
            refine lv_icmp_ne (tgt := 149) hx hb dX10_rate_141 (by decide) (fun c_4 => ?_) (fun c_4 => ?_)
            · skip
              refine lv_iload_n hx hb dX10_rate_149 rfl (lv_at hl 4 rfl) ?_
              refine lv_iconst (v := 2) hx hb dX10_rate_150 (by decide) ?_
              refine lv_icmp_ne (tgt := 159) hx hb dX10_rate_151 (by decide) (fun c_5 => ?_) (fun c_5 => ?_)
              · skip
                refine lv_iload_n hx hb dX10_rate_159 rfl (lv_at hl 4 rfl) ?_
                refine lv_iconst (v := 3) hx hb dX10_rate_160 (by decide) ?_
                refine lv_icmp_ne (tgt := 171) hx hb dX10_rate_161 (by decide) (fun c_6 => ?_) (fun c_6 => ?_)
                · skip
                  refine lv_iload_n hx hb dX10_rate_171 rfl (lv_at hl 4 rfl) ?_
                  refine lv_iconst (v := 4) hx hb dX10_rate_172 (by decide) ?_
                  refine lv_icmp_ne (tgt := 183) hx hb dX10_rate_173 (by decide) (fun c_7 => ?_) (fun c_7 => ?_)
                  · skip
                    obtain ⟨w, hw5, hw⟩ := how _ hp.2
                    refine lv_iload_n hx hb dX10_rate_183 rfl (lv_at hl 2 rfl) ?_
                    refine lv_aload_n hx hb dX10_rate_184 rfl (lv_at hl 3 rfl) ?_
                    refine gf_X10_31 C hW (by decide) rfl dX10_rate_185 ?_
                    refine lv_bipush (v := 10) hx hb dX10_rate_188 (by decide) ?_
                    refine lv_aload_n hx hb dX10_rate_190 rfl (lv_at hl 3 rfl) ?_
                    refine gf_X10_31 C hW (by decide) rfl dX10_rate_191 ?_
                    refine lv_bipush (v := 17) hx hb dX10_rate_194 (by decide) ?_
                    refine lv_iload_n hx hb dX10_rate_196 rfl (lv_at hl 5 rfl) ?_
                    refine lv_iadd hx hb dX10_rate_197 ?_
                    refine g_ald (v := σ 104 (17 + a1.toNatClampNeg)) (17 + a1.toNatClampNeg) C hW (by decide) rfl (gadd (rfl : 17 = nI 17) hp.1) (show (17 + a1.toNatClampNeg) < 25 by omega) (by decide) rfl dX10_rate_198 ?_
                    refine lv_iadd hx hb dX10_rate_199 ?_
                    refine g_ald (v := σ 104 (10 + w)) (10 + w) C hW (by decide) rfl (gadd (rfl : 10 = nI 10) hw) (show 10 + w < 25 by omega) (by decide) rfl dX10_rate_200 ?_
                    refine lv_iadd hx hb dX10_rate_201 ?_
                    exact g_iret C hr hlk hW dX10_rate_202 (by rw [if_pos ⟨c_1, c_2⟩]; simp [hz, hjz, c_3, c_4, c_5, c_6, c_7, hw, nI_clamp (show w < 2 ^ 31 by omega)]) (rfl) (by rw [if_pos ⟨c_1, c_2⟩]; rw [hjz])
                  · skip
                    refine lv_iload hx hb dX10_rate_176 (lv_at hl 0 rfl) ?_
                    refine lv_iload_n hx hb dX10_rate_178 rfl (lv_at hl 5 rfl) ?_
                    refine lv_iadd hx hb dX10_rate_179 ?_
                    refine lv_goto (tgt := 202) hx hb dX10_rate_180 (by decide) ?_
                    exact g_iret C hr hlk hW dX10_rate_202 (by rw [if_pos ⟨c_1, c_2⟩]; simp [hz, hjz, c_3, c_4, c_5, c_6, c_7]) (rfl) (by rw [if_pos ⟨c_1, c_2⟩]; rw [hjz])
                · skip
                  refine lv_iconst (v := 2) hx hb dX10_rate_164 (by decide) ?_
                  refine lv_iload hx hb dX10_rate_165 (lv_at hl 1 rfl) ?_
                  refine lv_imul hx hb dX10_rate_167 ?_
                  refine lv_goto (tgt := 202) hx hb dX10_rate_168 (by decide) ?_
                  exact g_iret C hr hlk hW dX10_rate_202 (by rw [if_pos ⟨c_1, c_2⟩]; simp [hz, hjz, c_3, c_4, c_5, c_6]) (rfl) (by rw [if_pos ⟨c_1, c_2⟩]; rw [hjz])
              · skip
                refine lv_iload hx hb dX10_rate_154 (lv_at hl 0 rfl) ?_
                refine lv_goto (tgt := 202) hx hb dX10_rate_156 (by decide) ?_
                exact g_iret C hr hlk hW dX10_rate_202 (by rw [if_pos ⟨c_1, c_2⟩]; simp [hz, hjz, c_3, c_4, c_5]) (rfl) (by rw [if_pos ⟨c_1, c_2⟩]; rw [hjz])
            · skip
              refine lv_iload hx hb dX10_rate_144 (lv_at hl 1 rfl) ?_
              refine lv_goto (tgt := 202) hx hb dX10_rate_146 (by decide) ?_
              exact g_iret C hr hlk hW dX10_rate_202 (by rw [if_pos ⟨c_1, c_2⟩]; simp [hz, hjz, c_3, c_4]) (rfl) (by rw [if_pos ⟨c_1, c_2⟩]; rw [hjz])
          · skip
            refine lv_iload_n hx hb dX10_rate_135 rfl (lv_at hl 2 rfl) ?_
            refine lv_goto (tgt := 202) hx hb dX10_rate_136 (by decide) ?_
            exact g_iret C hr hlk hW dX10_rate_202 (by rw [if_pos ⟨c_1, c_2⟩]; simp [hz, hjz, c_3]) (rfl) (by rw [if_pos ⟨c_1, c_2⟩]; rw [hjz])
        refine lv_iload_n hx hb dX10_rate_72 rfl (lv_at hl 4 rfl) ?_
        refine lv_if_ne (tgt := 80) hx hb dX10_rate_73 (by decide) (fun c_8 => ?_) (fun c_8 => ?_)
        · skip
          refine lv_iload_n hx hb dX10_rate_80 rfl (lv_at hl 4 rfl) ?_
          refine lv_iconst (v := 1) hx hb dX10_rate_81 (by decide) ?_
          refine lv_icmp_ne (tgt := 91) hx hb dX10_rate_82 (by decide) (fun c_9 => ?_) (fun c_9 => ?_)
          · skip
            refine lv_iload_n hx hb dX10_rate_91 rfl (lv_at hl 4 rfl) ?_
            refine lv_iconst (v := 2) hx hb dX10_rate_92 (by decide) ?_
            refine lv_icmp_ne (tgt := 102) hx hb dX10_rate_93 (by decide) (fun c_10 => ?_) (fun c_10 => ?_)
            · skip
              refine lv_iload_n hx hb dX10_rate_102 rfl (lv_at hl 4 rfl) ?_
              refine lv_iconst (v := 3) hx hb dX10_rate_103 (by decide) ?_
              refine lv_icmp_ne (tgt := 113) hx hb dX10_rate_104 (by decide) (fun c_11 => ?_) (fun c_11 => ?_)
              · skip
                refine lv_iload_n hx hb dX10_rate_113 rfl (lv_at hl 4 rfl) ?_
                refine lv_iconst (v := 4) hx hb dX10_rate_114 (by decide) ?_
                refine lv_icmp_ne (tgt := 124) hx hb dX10_rate_115 (by decide) (fun c_12 => ?_) (fun c_12 => ?_)
                · skip
                  refine lv_ldc2 (v := 100001) hx hb C.2.2.2.1 (C.2.2.2.2.1 _ kcn_X10_200) dX10_rate_124 ?_
                  exact K127 100001 (by simp [rTraceAdd, c_1, c_2, hz, c_8, c_9, c_10, c_11, c_12]) _ _ _ hW (lv_sub hl [0, 1, 2, 3, 4, 5] rfl)
                · skip
                  refine lv_ldc2 (v := 10101) hx hb C.2.2.2.1 (C.2.2.2.2.1 _ kcn_X10_198) dX10_rate_118 ?_
                  refine lv_goto (tgt := 127) hx hb dX10_rate_121 (by decide) ?_
                  exact K127 10101 (by simp [rTraceAdd, c_1, c_2, hz, c_8, c_9, c_10, c_11, c_12]) _ _ _ hW (lv_sub hl [0, 1, 2, 3, 4, 5] rfl)
              · skip
                refine lv_ldc2 (v := 1011) hx hb C.2.2.2.1 (C.2.2.2.2.1 _ kcn_X10_196) dX10_rate_107 ?_
                refine lv_goto (tgt := 127) hx hb dX10_rate_110 (by decide) ?_
                exact K127 1011 (by simp [rTraceAdd, c_1, c_2, hz, c_8, c_9, c_10, c_11]) _ _ _ hW (lv_sub hl [0, 1, 2, 3, 4, 5] rfl)
            · skip
              refine lv_ldc2 (v := 101) hx hb C.2.2.2.1 (C.2.2.2.2.1 _ kcn_X10_194) dX10_rate_96 ?_
              refine lv_goto (tgt := 127) hx hb dX10_rate_99 (by decide) ?_
              exact K127 101 (by simp [rTraceAdd, c_1, c_2, hz, c_8, c_9, c_10]) _ _ _ hW (lv_sub hl [0, 1, 2, 3, 4, 5] rfl)
          · skip
            refine lv_ldc2 (v := 11) hx hb C.2.2.2.1 (C.2.2.2.2.1 _ kcn_X10_192) dX10_rate_85 ?_
            refine lv_goto (tgt := 127) hx hb dX10_rate_88 (by decide) ?_
            exact K127 11 (by simp [rTraceAdd, c_1, c_2, hz, c_8, c_9]) _ _ _ hW (lv_sub hl [0, 1, 2, 3, 4, 5] rfl)
        · skip
          refine lv_lconst (v := 1) hx hb dX10_rate_76 (by decide) ?_
          refine lv_goto (tgt := 127) hx hb dX10_rate_77 (by decide) ?_
          exact K127 1 (by simp [rTraceAdd, c_1, c_2, hz, c_8]) _ _ _ hW (lv_sub hl [0, 1, 2, 3, 4, 5] rfl)
      refine lv_iload_n hx hb dX10_rate_42 rfl (lv_at hl 1 rfl) ?_
      refine lv_aload_n hx hb dX10_rate_43 rfl (lv_at hl 2 rfl) ?_
      refine gf_X10_31 C hW (by decide) rfl dX10_rate_44 ?_
      refine lv_bipush (v := 16) hx hb dX10_rate_47 (by decide) ?_
      refine g_ald (v := σ 104 16) 16 C hW (by decide) rfl rfl (by decide) (by decide) rfl dX10_rate_49 ?_
      refine lv_iload_n hx hb dX10_rate_50 rfl (lv_at hl 4 rfl) ?_
      refine lv_ishr hx hb dX10_rate_51 ?_
      refine lv_iconst (v := 1) hx hb dX10_rate_52 (by decide) ?_
      refine lv_iand hx hb dX10_rate_53 ?_
      refine lv_iconst (v := 1) hx hb dX10_rate_54 (by decide) ?_
      refine lv_icmp_ne (tgt := 63) hx hb dX10_rate_55 (by decide) (fun c_13 => ?_) (fun c_13 => ?_)
      · skip
        refine lv_iconst (v := 0) hx hb dX10_rate_63 (by decide) ?_
        exact K64 0 (by simp [bI, c_1, c_2, c_13]) _ _ _ hW (lv_sub hl [0, 1, 2, 3, 4] rfl)
      · skip
        refine lv_bipush (v := 7) hx hb dX10_rate_58 (by decide) ?_
        refine lv_goto (tgt := 64) hx hb dX10_rate_60 (by decide) ?_
        exact K64 7 (by simp [bI, c_1, c_2, c_13]) _ _ _ hW (lv_sub hl [0, 1, 2, 3, 4] rfl)
    · skip
      replace c_2 : (mIn a1 0 (σ 98 2 - 1)) = false := bI_eq0.mp c_2
      refine lv_ldc (v := (-1000000)) hx hb C.2.2.2.1 (C.2.2.2.2.1 _ kcn_X10_187) dX10_rate_22 ?_
      exact g_iret C hr hlk hW dX10_rate_24 (by simp [c_1, c_2]) (rfl) (by simp [c_1, c_2])
set_option maxHeartbeats 4000000 in
set_option maxRecDepth 100000 in
theorem m_passes (l : Launch) (G : gG) (σ : gSt) (τ : Nat → Int64) (a0 : Int32) (D : Nat) (hD : σ 98 2 = nI D) (hD8 : D ≤ 8) (N : Nat) (hN : σ 98 1 = nI N) (hN5 : N ≤ 5) (u : Nat) (hu : σ 96 20 = nI u) (hu2 : u ≤ 10) : gI l yX10_passes cX10_passes 6 (some .int) 2 49 G [.ref (gAd G 96), .int a0] σ τ (if (mIn a0 1 240 = true) then (if (σ 104 15 + a0 ≤ 240) then mPassR (mNowS (mNotes σ u)) D N a0.toNatClampNeg else -2) else -1) (if (mIn a0 1 240 = true) then (if (σ 104 15 + a0 ≤ 240) then mPassS (mNowS (mNotes σ u)) D N a0.toNatClampNeg else σ) else σ) τ := by
  refine gMet_of (by decide) (Nat.le_of_ble_eq_true rfl) ?_
  intro p e s m args below meth c C hr hlk ls hl hW
  have hx := C.1
  have hb := C.2.1
  have hl : lv_has ls 6 [(0, .ref (gAd G 96)), (1, .int a0)] := hl
  refine lv_aload_n hx hb dX10_passes_0 rfl (lv_at hl 0 rfl) ?_
  refine lv_iconst (v := 0) hx hb dX10_passes_1 (by decide) ?_
  refine gp_X10_62 C hW (by decide) rfl dX10_passes_2 (fun H locs hW => ?_)
  refine lv_iload_n hx hb dX10_passes_5 rfl (lv_at hl 1 rfl) ?_
  refine lv_iconst (v := 1) hx hb dX10_passes_6 (by decide) ?_
  refine lv_sipush (v := 240) hx hb dX10_passes_7 (by decide) ?_
  refine g_callsI (r := bI (mIn a0 1 240)) (σ' := σ) (rest := []) (As := [.int a0, .int 1, .int 240]) C hW ks_X10_66 (m_in l G σ τ a0 1 240) ⟨Nat.le_of_ble_eq_true rfl, Nat.le_of_ble_eq_true rfl⟩ ⟨Nat.le_refl _, Nat.le_refl _⟩ rfl hl.1 rfl (Nat.le_of_ble_eq_true rfl) dX10_passes_10 (fun H locs hW => ?_)
  refine lv_if_ne (tgt := 18) hx hb dX10_passes_13 (by decide) (fun c_1 => ?_) (fun c_1 => ?_)
  · skip
    replace c_1 : (mIn a0 1 240) = true := bI_ne0.mp c_1
    refine lv_aload_n hx hb dX10_passes_18 rfl (lv_at hl 0 rfl) ?_
    refine gf_X10_31 C hW (by decide) rfl dX10_passes_19 ?_
    refine lv_bipush (v := 15) hx hb dX10_passes_22 (by decide) ?_
    refine g_ald (v := σ 104 15) 15 C hW (by decide) rfl rfl (by decide) (by decide) rfl dX10_passes_24 ?_
    refine lv_iload_n hx hb dX10_passes_25 rfl (lv_at hl 1 rfl) ?_
    refine lv_iadd hx hb dX10_passes_26 ?_
    refine lv_sipush (v := 240) hx hb dX10_passes_27 (by decide) ?_
    refine lv_icmp_le (tgt := 36) hx hb dX10_passes_30 (by decide) (fun c_2 => ?_) (fun c_2 => ?_)
    · skip
      have hp := in240 c_1
      refine lv_aload_n hx hb dX10_passes_36 rfl (lv_at hl 0 rfl) ?_
      refine g_callvV (σ' := mNotes σ u) (rest := []) (As := []) C hW kv_X10_158 96 (by decide) (gL_10 rfl) rfl (m_notes l G σ τ u hu hu2) ⟨Nat.le_of_ble_eq_true rfl, Nat.le_of_ble_eq_true rfl⟩ ⟨Nat.le_refl _, Nat.le_refl _⟩ rfl hl.1 rfl (Nat.le_of_ble_eq_true rfl) dX10_passes_37 (fun H locs hW => ?_)
      refine lv_aload_n hx hb dX10_passes_40 rfl (lv_at hl 0 rfl) ?_
      refine g_callvV (σ' := gu (mNotes σ u) 96 25 ((mNotes σ u) 104 16)) (rest := []) (As := []) C hW kv_X10_139 96 (by decide) (gL_10 rfl) rfl (m_asNow l G (mNotes σ u) τ) ⟨Nat.le_of_ble_eq_true rfl, Nat.le_of_ble_eq_true rfl⟩ ⟨Nat.le_refl _, Nat.le_refl _⟩ rfl hl.1 rfl (Nat.le_of_ble_eq_true rfl) dX10_passes_41 (fun H locs hW => ?_)
      refine lv_iconst (v := 0) hx hb dX10_passes_44 (by decide) ?_
      refine lv_istore_n (lv' := [(2, .int 0), (0, .ref (gAd G 96)), (1, .int a0)]) hx hb dX10_passes_45 rfl hl (by decide) rfl (fun ls hl => ?_)
      refine lv_iconst (v := 0) hx hb dX10_passes_46 (by decide) ?_
      refine lv_istore_n (lv' := [(3, .int 0), (2, .int 0), (0, .ref (gAd G 96)), (1, .int a0)]) hx hb dX10_passes_47 rfl hl (by decide) rfl (fun ls hl => ?_)
      have L48 : ∀ (n : Nat) (k : Nat) (v : Int32) (H : Heap) (locs : List Loc) (ls : Array Slot), n + k = a0.toNatClampNeg → v = (mPassR (mNowS (mNotes σ u)) D N k) → gW G s (mPassS (mNowS (mNotes σ u)) D N k) τ H locs → lv_has ls 6 [(3, .int (nI k)), (2, .int v), (0, .ref (gAd G 96)), (1, .int a0)] → W p l e (gRm 2 49) s m args below meth c H locs 0 0 (MQ below (gQi G (if (mIn a0 1 240 = true) then (if (σ 104 15 + a0 ≤ 240) then mPassR (mNowS (mNotes σ u)) D N a0.toNatClampNeg else -2) else -1) (if (mIn a0 1 240 = true) then (if (σ 104 15 + a0 ≤ 240) then mPassS (mNowS (mNotes σ u)) D N a0.toNatClampNeg else σ) else σ) τ) args s 0 0 (gA G)) (F0 m 48 ls []) := by
        intro n
        induction n with
        | zero =>
          intro k v H locs ls hm hv hW hl
          refine lv_iload_n hx hb dX10_passes_48 rfl (lv_at hl 0 rfl) ?_
          refine lv_iload_n hx hb dX10_passes_49 rfl (lv_at hl 3 rfl) ?_
          refine lv_icmp_ge (tgt := 160) hx hb dX10_passes_50 (by decide) (fun _ => ?_) (fun zz => absurd (by rw [hp.1]; exact (show nI a0.toNatClampNeg ≤ nI k from nI_le (by omega) (by omega))) zz)
          refine lv_iload_n hx hb dX10_passes_160 rfl (lv_at hl 1 rfl) ?_
          exact g_iret C hr hlk hW dX10_passes_161 (by rw [if_pos c_1, if_pos c_2, hv, show k = a0.toNatClampNeg by omega]) (by rw [if_pos c_1, if_pos c_2, show k = a0.toNatClampNeg by omega]) (rfl)
        | succ n ih48 =>
          intro k v H locs ls hm hv hW hl
          refine lv_iload_n hx hb dX10_passes_48 rfl (lv_at hl 0 rfl) ?_
          refine lv_iload_n hx hb dX10_passes_49 rfl (lv_at hl 3 rfl) ?_
          refine lv_icmp_ge (tgt := 160) hx hb dX10_passes_50 (by decide) (fun zz => absurd zz (by rw [hp.1]; exact (show ¬ nI a0.toNatClampNeg ≤ nI k from nI_ge (by omega) (by omega)))) (fun _ => ?_)
          refine lv_aload_n hx hb dX10_passes_53 rfl (lv_at hl 2 rfl) ?_
          refine lv_aload_n hx hb dX10_passes_54 rfl (lv_at hl 2 rfl) ?_
          refine gf_X10_31 C hW (by decide) rfl dX10_passes_55 ?_
          refine lv_bipush (v := 15) hx hb dX10_passes_58 (by decide) ?_
          refine g_ald (v := (mPassS (mNowS (mNotes σ u)) D N k) 104 15) 15 C hW (by decide) rfl rfl (by decide) (by decide) rfl dX10_passes_60 ?_
          refine g_callvI (r := mSet (mPassS (mNowS (mNotes σ u)) D N k) D N) (σ' := mPassS (mNowS (mNotes σ u)) D N k) (rest := []) (As := [.int ((mPassS (mNowS (mNotes σ u)) D N k) 104 15)]) C hW kv_X10_145 96 (by decide) (gL_10 rfl) rfl (m_ringsIn l G (mPassS (mNowS (mNotes σ u)) D N k) τ ((mPassS (mNowS (mNotes σ u)) D N k) 104 15) D (by rw [mPassS_ne (by decide), mNowS_ne (by decide), mNotes_ne (by decide) (by decide)]; exact hD) hD8 N (by rw [mPassS_ne (by decide), mNowS_ne (by decide), mNotes_ne (by decide) (by decide)]; exact hN) hN5) ⟨Nat.le_of_ble_eq_true rfl, Nat.le_of_ble_eq_true rfl⟩ ⟨Nat.le_refl _, Nat.le_refl _⟩ rfl hl.1 rfl (Nat.le_of_ble_eq_true rfl) dX10_passes_61 (fun H locs hW => ?_)
          refine lv_istore (lv' := [(4, .int (mSet (mPassS (mNowS (mNotes σ u)) D N k) D N)), (3, .int (nI k)), (2, .int v), (0, .ref (gAd G 96)), (1, .int a0)]) hx hb dX10_passes_64 hl (by decide) rfl (fun ls hl => ?_)
          refine lv_iconst (v := 0) hx hb dX10_passes_66 (by decide) ?_
          refine lv_istore (lv' := [(5, .int 0), (4, .int (mSet (mPassS (mNowS (mNotes σ u)) D N k) D N)), (3, .int (nI k)), (2, .int v), (0, .ref (gAd G 96)), (1, .int a0)]) hx hb dX10_passes_67 hl (by decide) rfl (fun ls hl => ?_)
          have L69 : ∀ (n_ : Nat) (q_ : Nat) (H : Heap) (locs : List Loc) (ls : Array Slot), n_ + q_ = N → gW G s (mMinP (mPassS (mNowS (mNotes σ u)) D N k) (mSet (mPassS (mNowS (mNotes σ u)) D N k) D N) q_) τ H locs → lv_has ls 6 [(5, .int (nI q_)), (4, .int (mSet (mPassS (mNowS (mNotes σ u)) D N k) D N)), (3, .int (nI k)), (2, .int v), (0, .ref (gAd G 96)), (1, .int a0)] → W p l e (gRm 2 49) s m args below meth c H locs 0 0 (MQ below (gQi G (if (mIn a0 1 240 = true) then (if (σ 104 15 + a0 ≤ 240) then mPassR (mNowS (mNotes σ u)) D N a0.toNatClampNeg else -2) else -1) (if (mIn a0 1 240 = true) then (if (σ 104 15 + a0 ≤ 240) then mPassS (mNowS (mNotes σ u)) D N a0.toNatClampNeg else σ) else σ) τ) args s 0 0 (gA G)) (F0 m 69 ls []) := by
            intro n_
            induction n_ with
            | zero =>
              intro q_ H locs ls hm hW hl
              refine lv_iload hx hb dX10_passes_69 (lv_at hl 0 rfl) ?_
              refine lv_aload_n hx hb dX10_passes_71 rfl (lv_at hl 4 rfl) ?_
              refine gf_X10_13 C hW (by decide) rfl dX10_passes_72 ?_
              refine lv_iconst (v := 1) hx hb dX10_passes_75 (by decide) ?_
              refine g_ald (v := nI N) 1 C hW (by decide) rfl rfl (by decide) (by decide) (by rw [mMinP_ne (by decide), mPassS_ne (by decide), mNowS_ne (by decide), mNotes_ne (by decide) (by decide)]; exact hN) dX10_passes_76 ?_
              refine lv_icmp_ge (tgt := 135) hx hb dX10_passes_77 (by decide) (fun _ => ?_) (fun zz => absurd (show nI N ≤ nI q_ from nI_le (by omega) (by omega)) zz)
              refine lv_iload_n hx hb dX10_passes_135 rfl (lv_at hl 3 rfl) ?_
              refine lv_iload hx hb dX10_passes_136 (lv_at hl 1 rfl) ?_
              refine g_callsI (r := mOnes (mSet (mPassS (mNowS (mNotes σ u)) D N k) D N) 8) (σ' := mMinP (mPassS (mNowS (mNotes σ u)) D N k) (mSet (mPassS (mNowS (mNotes σ u)) D N k) D N) q_) (rest := [.int v]) (As := [.int (mSet (mPassS (mNowS (mNotes σ u)) D N k) D N)]) C hW ks_X10_164 (m_ones l G (mMinP (mPassS (mNowS (mNotes σ u)) D N k) (mSet (mPassS (mNowS (mNotes σ u)) D N k) D N) q_) τ (mSet (mPassS (mNowS (mNotes σ u)) D N k) D N)) ⟨Nat.le_of_ble_eq_true rfl, Nat.le_of_ble_eq_true rfl⟩ ⟨Nat.le_refl _, Nat.le_refl _⟩ rfl hl.1 rfl (Nat.le_of_ble_eq_true rfl) dX10_passes_138 (fun H locs hW => ?_)
              refine lv_iadd hx hb dX10_passes_141 ?_
              refine lv_istore_n (lv' := [(2, .int (v + (mOnes (mSet (mPassS (mNowS (mNotes σ u)) D N k) D N) 8))), (5, .int (nI q_)), (4, .int (mSet (mPassS (mNowS (mNotes σ u)) D N k) D N)), (3, .int (nI k)), (0, .ref (gAd G 96)), (1, .int a0)]) hx hb dX10_passes_142 rfl hl (by decide) rfl (fun ls hl => ?_)
              refine lv_aload_n hx hb dX10_passes_143 rfl (lv_at hl 4 rfl) ?_
              refine gf_X10_31 C hW (by decide) rfl dX10_passes_144 ?_
              refine lv_bipush (v := 15) hx hb dX10_passes_147 (by decide) ?_
              refine lv_dup2_11 hx hb dX10_passes_149 rfl rfl ?_
              refine g_ald (v := (mMinP (mPassS (mNowS (mNotes σ u)) D N k) (mSet (mPassS (mNowS (mNotes σ u)) D N k) D N) q_) 104 15) 15 C hW (by decide) rfl rfl (by decide) (by decide) rfl dX10_passes_150 ?_
              refine lv_iconst (v := 1) hx hb dX10_passes_151 (by decide) ?_
              refine lv_iadd hx hb dX10_passes_152 ?_
              refine g_ast 15 C hW (by decide) rfl rfl (by decide) (by decide) dX10_passes_153 (fun H locs hW => ?_)
              refine lv_iinc (v := nI (k + 1)) (lv' := [(3, .int (nI (k + 1))), (2, .int (v + (mOnes (mSet (mPassS (mNowS (mNotes σ u)) D N k) D N) 8))), (5, .int (nI q_)), (4, .int (mSet (mPassS (mNowS (mNotes σ u)) D N k) D N)), (0, .ref (gAd G 96)), (1, .int a0)]) hx hb dX10_passes_154 hl (k := 3) rfl (nI_1 _) (by decide) rfl (fun ls hl => ?_)
              refine lv_goto (tgt := 48) hx hb dX10_passes_157 (by decide) ?_
              exact ih48 (k + 1) (v + (mOnes (mSet (mPassS (mNowS (mNotes σ u)) D N k) D N) 8)) _ _ _ (by omega) (by rw [mPassR, ← hv]) (by rw [show q_ = N by omega] at hW; rw [mPassS, mMin]; exact hW) (lv_sub hl [0, 1, 4, 5] rfl)
            | succ n_ ih69 =>
              intro q_ H locs ls hm hW hl
              refine lv_iload hx hb dX10_passes_69 (lv_at hl 0 rfl) ?_
              refine lv_aload_n hx hb dX10_passes_71 rfl (lv_at hl 4 rfl) ?_
              refine gf_X10_13 C hW (by decide) rfl dX10_passes_72 ?_
              refine lv_iconst (v := 1) hx hb dX10_passes_75 (by decide) ?_
              refine g_ald (v := nI N) 1 C hW (by decide) rfl rfl (by decide) (by decide) (by rw [mMinP_ne (by decide), mPassS_ne (by decide), mNowS_ne (by decide), mNotes_ne (by decide) (by decide)]; exact hN) dX10_passes_76 ?_
              refine lv_icmp_ge (tgt := 135) hx hb dX10_passes_77 (by decide) (fun zz => absurd zz (show ¬ nI N ≤ nI q_ from nI_ge (by omega) (by omega))) (fun _ => ?_)
              refine lv_aload_n hx hb dX10_passes_80 rfl (lv_at hl 4 rfl) ?_
              refine gf_X10_31 C hW (by decide) rfl dX10_passes_81 ?_
              refine lv_bipush (v := 10) hx hb dX10_passes_84 (by decide) ?_
              refine lv_iload hx hb dX10_passes_86 (lv_at hl 0 rfl) ?_
              refine lv_iadd hx hb dX10_passes_88 ?_
              refine lv_dup2_11 hx hb dX10_passes_89 rfl rfl ?_
              refine g_ald (v := (mMinP (mPassS (mNowS (mNotes σ u)) D N k) (mSet (mPassS (mNowS (mNotes σ u)) D N k) D N) q_) 104 (10 + q_)) (10 + q_) C hW (by decide) rfl (gadd (rfl : 10 = nI 10) (rfl : nI q_ = nI q_)) (show (10 + q_) < 25 by omega) (by decide) rfl dX10_passes_90 ?_
              refine lv_iload hx hb dX10_passes_91 (lv_at hl 1 rfl) ?_
              refine lv_iload hx hb dX10_passes_93 (lv_at hl 0 rfl) ?_
              refine lv_ishr hx hb dX10_passes_95 ?_
              refine lv_iconst (v := 1) hx hb dX10_passes_96 (by decide) ?_
              refine lv_iand hx hb dX10_passes_97 ?_
              refine lv_iadd hx hb dX10_passes_98 ?_
              refine g_ast (10 + q_) C hW (by decide) rfl (gadd (rfl : 10 = nI 10) (rfl : nI q_ = nI q_)) (show (10 + q_) < 25 by omega) (by decide) dX10_passes_99 (fun H locs hW => ?_)
              refine lv_aload_n hx hb dX10_passes_100 rfl (lv_at hl 4 rfl) ?_
              refine gf_X10_31 C hW (by decide) rfl dX10_passes_101 ?_
              refine lv_iconst (v := 5) hx hb dX10_passes_104 (by decide) ?_
              refine lv_iload hx hb dX10_passes_105 (lv_at hl 0 rfl) ?_
              refine lv_iadd hx hb dX10_passes_107 ?_
              refine lv_dup2_11 hx hb dX10_passes_108 rfl rfl ?_
              refine g_ald (v := (gu (mMinP (mPassS (mNowS (mNotes σ u)) D N k) (mSet (mPassS (mNowS (mNotes σ u)) D N k) D N) q_) 104 (10 + q_) (((mMinP (mPassS (mNowS (mNotes σ u)) D N k) (mSet (mPassS (mNowS (mNotes σ u)) D N k) D N) q_) 104 (10 + q_)) + (((mSet (mPassS (mNowS (mNotes σ u)) D N k) D N) >>> ((nI q_) &&& 31)) &&& 1))) 104 (5 + q_)) (5 + q_) C hW (by decide) rfl (gadd (rfl : 5 = nI 5) (rfl : nI q_ = nI q_)) (show (5 + q_) < 25 by omega) (by decide) rfl dX10_passes_109 ?_
              have K127 : ∀ (z : Int32), z = (if (gu (mMinP (mPassS (mNowS (mNotes σ u)) D N k) (mSet (mPassS (mNowS (mNotes σ u)) D N k) D N) q_) 104 (10 + q_) (mMinP (mPassS (mNowS (mNotes σ u)) D N k) (mSet (mPassS (mNowS (mNotes σ u)) D N k) D N) q_ 104 (10 + q_) + ((mSet (mPassS (mNowS (mNotes σ u)) D N k) D N >>> (nI q_ &&& 31)) &&& 1))) 104 (5 + q_) ≤ 0 then 0 else 1) → ∀ (H : Heap) (locs : List Loc) (ls : Array Slot), gW G s (gu (mMinP (mPassS (mNowS (mNotes σ u)) D N k) (mSet (mPassS (mNowS (mNotes σ u)) D N k) D N) q_) 104 (10 + q_) (((mMinP (mPassS (mNowS (mNotes σ u)) D N k) (mSet (mPassS (mNowS (mNotes σ u)) D N k) D N) q_) 104 (10 + q_)) + (((mSet (mPassS (mNowS (mNotes σ u)) D N k) D N) >>> ((nI q_) &&& 31)) &&& 1))) τ H locs → lv_has ls 6 [(5, .int (nI q_)), (4, .int (mSet (mPassS (mNowS (mNotes σ u)) D N k) D N)), (3, .int (nI k)), (2, .int v), (0, .ref (gAd G 96)), (1, .int a0)] → W p l e (gRm 2 49) s m args below meth c H locs 0 0 (MQ below (gQi G (if (mIn a0 1 240 = true) then (if (σ 104 15 + a0 ≤ 240) then mPassR (mNowS (mNotes σ u)) D N a0.toNatClampNeg else -2) else -1) (if (mIn a0 1 240 = true) then (if (σ 104 15 + a0 ≤ 240) then mPassS (mNowS (mNotes σ u)) D N a0.toNatClampNeg else σ) else σ) τ) args s 0 0 (gA G)) (F0 m 127 ls [.int z, .int ((gu (mMinP (mPassS (mNowS (mNotes σ u)) D N k) (mSet (mPassS (mNowS (mNotes σ u)) D N k) D N) q_) 104 (10 + q_) (((mMinP (mPassS (mNowS (mNotes σ u)) D N k) (mSet (mPassS (mNowS (mNotes σ u)) D N k) D N) q_) 104 (10 + q_)) + (((mSet (mPassS (mNowS (mNotes σ u)) D N k) D N) >>> ((nI q_) &&& 31)) &&& 1))) 104 (5 + q_)), .int (5 + (nI q_)), .ref (gAd G 104)]) := by
                intro z hz H locs ls hW hl
                refine lv_isub hx hb dX10_passes_127 ?_
                refine g_ast (5 + q_) C hW (by decide) rfl (gadd (rfl : 5 = nI 5) (rfl : nI q_ = nI q_)) (show (5 + q_) < 25 by omega) (by decide) dX10_passes_128 (fun H locs hW => ?_)
                refine lv_iinc (v := nI (q_ + 1)) (lv' := [(5, .int (nI (q_ + 1))), (4, .int (mSet (mPassS (mNowS (mNotes σ u)) D N k) D N)), (3, .int (nI k)), (2, .int v), (0, .ref (gAd G 96)), (1, .int a0)]) hx hb dX10_passes_129 hl (k := 0) rfl (nI_1 _) (by decide) rfl (fun ls hl => ?_)
                refine lv_goto (tgt := 69) hx hb dX10_passes_132 (by decide) ?_
                exact ih69 (q_ + 1) _ _ _ (by omega)  (by rw [hz] at hW; rw [mMinP]; exact hW) (lv_sub hl [0, 1, 2, 3, 4, 5] rfl)
              refine lv_aload_n hx hb dX10_passes_110 rfl (lv_at hl 4 rfl) ?_
              refine gf_X10_31 C hW (by decide) rfl dX10_passes_111 ?_
              refine lv_iconst (v := 5) hx hb dX10_passes_114 (by decide) ?_
              refine lv_iload hx hb dX10_passes_115 (lv_at hl 0 rfl) ?_
              refine lv_iadd hx hb dX10_passes_117 ?_
              refine g_ald (v := (gu (mMinP (mPassS (mNowS (mNotes σ u)) D N k) (mSet (mPassS (mNowS (mNotes σ u)) D N k) D N) q_) 104 (10 + q_) (((mMinP (mPassS (mNowS (mNotes σ u)) D N k) (mSet (mPassS (mNowS (mNotes σ u)) D N k) D N) q_) 104 (10 + q_)) + (((mSet (mPassS (mNowS (mNotes σ u)) D N k) D N) >>> ((nI q_) &&& 31)) &&& 1))) 104 (5 + q_)) (5 + q_) C hW (by decide) rfl (gadd (rfl : 5 = nI 5) (rfl : nI q_ = nI q_)) (show (5 + q_) < 25 by omega) (by decide) rfl dX10_passes_118 ?_
              refine lv_if_le (tgt := 126) hx hb dX10_passes_119 (by decide) (fun c_3 => ?_) (fun c_3 => ?_)
              · skip
                refine lv_iconst (v := 0) hx hb dX10_passes_126 (by decide) ?_
                exact K127 0 (by simp [bI, c_1, c_2, hv, c_3]) _ _ _ hW (lv_sub hl [0, 1, 2, 3, 4, 5] rfl)
              · skip
                refine lv_iconst (v := 1) hx hb dX10_passes_122 (by decide) ?_
                refine lv_goto (tgt := 127) hx hb dX10_passes_123 (by decide) ?_
                exact K127 1 (by simp [bI, c_1, c_2, hv, c_3]) _ _ _ hW (lv_sub hl [0, 1, 2, 3, 4, 5] rfl)
          exact L69 N 0 _ _ _ (by omega)  hW (lv_sub hl [0, 1, 2, 3, 4, 5] rfl)
      exact L48 a0.toNatClampNeg 0 0 _ _ _ (by omega) (by first | rfl | simp [bI, c_1, c_2]) hW (lv_sub hl [0, 1, 2, 3] rfl)
    · skip
      refine lv_bipush (v := (-2)) hx hb dX10_passes_33 (by decide) ?_
      exact g_iret C hr hlk hW dX10_passes_35 (by simp [c_1, c_2]) (by simp [c_1, c_2]) (rfl)
  · skip
    replace c_1 : (mIn a0 1 240) = false := bI_eq0.mp c_1
    refine lv_iconst (v := (-1)) hx hb dX10_passes_16 (by decide) ?_
    exact g_iret C hr hlk hW dX10_passes_17 (by simp [c_1]) (by simp [c_1]) (rfl)
set_option maxHeartbeats 4000000 in
set_option maxRecDepth 100000 in
theorem m_gcd (l : Launch) (G : gG) (σ : gSt) (τ : Nat → Int64) (a0 a1 : Int32) (a b : Nat) (ha : a0 = nI a) (hb_ : a1 = nI b) (ha2 : a < 2 ^ 31) (hb2 : b < 2 ^ 31) : gI l yX10_gcd cX10_gcd 5 (some .int) 0 0 G [.int a0, .int a1] σ τ (nI (Nat.gcd a b)) σ τ := by
  refine gMet_of (by decide) (Nat.le_of_ble_eq_true rfl) ?_
  intro p e s m args below meth c C hr hlk ls hl hW
  have hx := C.1
  have hb := C.2.1
  have hl : lv_has ls 5 [(0, .int a0), (1, .int a1)] := hl
  rw [ha, hb_] at hl
  refine lv_iload_n hx hb dX10_gcd_0 rfl (lv_at hl 0 rfl) ?_
  refine lv_istore_n (lv' := [(2, .int (nI a)), (0, .int (nI a)), (1, .int (nI b))]) hx hb dX10_gcd_1 rfl hl (by decide) rfl (fun ls hl => ?_)
  refine lv_iload_n hx hb dX10_gcd_2 rfl (lv_at hl 2 rfl) ?_
  refine lv_istore_n (lv' := [(3, .int (nI b)), (2, .int (nI a)), (0, .int (nI a)), (1, .int (nI b))]) hx hb dX10_gcd_3 rfl hl (by decide) rfl (fun ls hl => ?_)
  have L4 : ∀ (n : Nat) (x_ : Nat) (y_ : Nat) (H : Heap) (locs : List Loc) (ls : Array Slot), y_ ≤ n → Nat.gcd x_ y_ = Nat.gcd a b → x_ < 2 ^ 31 → y_ < 2 ^ 31 → gW G s σ τ H locs → lv_has ls 5 [(3, .int (nI y_)), (2, .int (nI x_)), (0, .int (nI a)), (1, .int (nI b))] → W p l e (gRm 0 0) s m args below meth c H locs 0 0 (MQ below (gQi G (nI (Nat.gcd a b)) σ τ) args s 0 0 (gA G)) (F0 m 4 ls []) := by
    intro n
    induction n with
    | zero =>
      intro x_ y_ H locs ls hm hg hx31 hy31 hW hl
      refine lv_iload_n hx hb dX10_gcd_4 rfl (lv_at hl 0 rfl) ?_
      refine lv_if_eq (tgt := 21) hx hb dX10_gcd_5 (by decide) (fun _ => ?_) (fun zz => absurd (show nI y_ = 0 from by rw [show y_ = 0 by omega]; rfl) zz)
      refine lv_iload_n hx hb dX10_gcd_21 rfl (lv_at hl 1 rfl) ?_
      exact g_iret C hr hlk hW dX10_gcd_22 (by rw [← hg, show y_ = 0 by omega, Nat.gcd_zero_right]) (rfl) (rfl)
    | succ n ih4 =>
      intro x_ y_ H locs ls hm hg hx31 hy31 hW hl
      refine lv_iload_n hx hb dX10_gcd_4 rfl (lv_at hl 0 rfl) ?_
      refine lv_if_eq (tgt := 21) hx hb dX10_gcd_5 (by decide) (fun c_1 => ?_) (fun c_1 => ?_)
      · skip
        replace c_1 : y_ = 0 := (nI_eq (a := y_) (b := 0) (by omega) (by omega)).mp c_1
        refine lv_iload_n hx hb dX10_gcd_21 rfl (lv_at hl 1 rfl) ?_
        exact g_iret C hr hlk hW dX10_gcd_22 (by rw [← hg, show y_ = 0 by omega, Nat.gcd_zero_right]) (rfl) (rfl)
      · skip
        replace c_1 : ¬ y_ = 0 := mt (nI_eq (a := y_) (b := 0) (by omega) (by omega)).mpr c_1
        refine lv_iload_n hx hb dX10_gcd_8 rfl (lv_at hl 1 rfl) ?_
        refine lv_iload_n hx hb dX10_gcd_9 rfl (lv_at hl 0 rfl) ?_
        refine lv_irem hx hb dX10_gcd_10 (nI_ne0 (by omega) hy31) ?_
        rw [pk_rem hx31 (by omega) hy31]
        refine lv_istore (lv' := [(4, .int (nI (x_ % y_))), (3, .int (nI y_)), (2, .int (nI x_)), (0, .int (nI a)), (1, .int (nI b))]) hx hb dX10_gcd_11 hl (by decide) rfl (fun ls hl => ?_)
        refine lv_iload_n hx hb dX10_gcd_13 rfl (lv_at hl 1 rfl) ?_
        refine lv_istore_n (lv' := [(2, .int (nI y_)), (4, .int (nI (x_ % y_))), (3, .int (nI y_)), (0, .int (nI a)), (1, .int (nI b))]) hx hb dX10_gcd_14 rfl hl (by decide) rfl (fun ls hl => ?_)
        refine lv_iload hx hb dX10_gcd_15 (lv_at hl 1 rfl) ?_
        refine lv_istore_n (lv' := [(3, .int (nI (x_ % y_))), (2, .int (nI y_)), (4, .int (nI (x_ % y_))), (0, .int (nI a)), (1, .int (nI b))]) hx hb dX10_gcd_17 rfl hl (by decide) rfl (fun ls hl => ?_)
        refine lv_goto (tgt := 4) hx hb dX10_gcd_18 (by decide) ?_
        exact ih4 y_ (x_ % y_) _ _ _ (by have := Nat.mod_lt x_ (show 0 < y_ by omega); omega) (by rw [← hg, Nat.gcd_comm y_, ← Nat.gcd_rec, Nat.gcd_comm]) hy31 (by have := Nat.mod_lt x_ (show 0 < y_ by omega); omega) hW (lv_sub hl [0, 1, 3, 4] rfl)
  exact L4 b a b _ _ _ (Nat.le_refl _) rfl ha2 hb2 hW (lv_sub hl [0, 1, 2, 3] rfl)
set_option maxHeartbeats 4000000 in
set_option maxRecDepth 100000 in
theorem m_odds (l : Launch) (G : gG) (σ : gSt) (τ : Nat → Int64) (a0 a1 a2 a3 : Int32) (D : Nat) (hD : σ 98 2 = nI D) (hD8 : D ≤ 8) (N : Nat) (hN : σ 98 1 = nI N) (hN5 : N ≤ 5) : gI l yX10_odds cX10_odds 8 (some .int) 2 43 G [.ref (gAd G 96), .int a0, .int a1, .int a2, .int a3] σ τ (if (mIn a0 0 (σ 98 1 - 1) = true ∧ mIn a1 0 239 = true ∧ mIn a2 0 10 = true ∧ mIn a3 0 1 = true) then (if a3 = 0 then nI ((10 ^ mMiss σ a0 a1 (σ 99 a0.toNatClampNeg) D D - a2.toNatClampNeg ^ mMiss σ a0 a1 (σ 99 a0.toNatClampNeg) D D) / Nat.gcd (10 ^ mMiss σ a0 a1 (σ 99 a0.toNatClampNeg) D D - a2.toNatClampNeg ^ mMiss σ a0 a1 (σ 99 a0.toNatClampNeg) D D) (10 ^ mMiss σ a0 a1 (σ 99 a0.toNatClampNeg) D D)) else nI ((10 ^ mMiss σ a0 a1 (σ 99 a0.toNatClampNeg) D D) / Nat.gcd (10 ^ mMiss σ a0 a1 (σ 99 a0.toNatClampNeg) D D - a2.toNatClampNeg ^ mMiss σ a0 a1 (σ 99 a0.toNatClampNeg) D D) (10 ^ mMiss σ a0 a1 (σ 99 a0.toNatClampNeg) D D))) else -1) (if (mIn a0 0 (σ 98 1 - 1) = true ∧ mIn a1 0 239 = true ∧ mIn a2 0 10 = true ∧ mIn a3 0 1 = true) then gu σ 96 25 (rOddW (σ 104 16) (σ 96 25) D) else σ) τ := by
  refine gMet_of (by decide) (Nat.le_of_ble_eq_true rfl) ?_
  intro p e s m args below meth c C hr hlk ls hl hW
  have hx := C.1
  have hb := C.2.1
  have hl : lv_has ls 8 [(0, .ref (gAd G 96)), (1, .int a0), (2, .int a1), (3, .int a2), (4, .int a3)] := hl
  refine lv_aload_n hx hb dX10_odds_0 rfl (lv_at hl 0 rfl) ?_
  refine lv_iconst (v := 0) hx hb dX10_odds_1 (by decide) ?_
  refine gp_X10_62 C hW (by decide) rfl dX10_odds_2 (fun H locs hW => ?_)
  refine lv_aload_n hx hb dX10_odds_5 rfl (lv_at hl 0 rfl) ?_
  refine lv_iload_n hx hb dX10_odds_6 rfl (lv_at hl 1 rfl) ?_
  refine g_callvI (r := bI (mIn a0 0 (σ 98 1 - 1))) (σ' := σ) (rest := []) (As := [.int a0]) C hW kv_X10_136 96 (by decide) (gL_10 rfl) rfl (m_isPerson l G σ τ a0) ⟨Nat.le_of_ble_eq_true rfl, Nat.le_of_ble_eq_true rfl⟩ ⟨Nat.le_refl _, Nat.le_refl _⟩ rfl hl.1 rfl (Nat.le_of_ble_eq_true rfl) dX10_odds_7 (fun H locs hW => ?_)
  refine lv_if_eq (tgt := 44) hx hb dX10_odds_10 (by decide) (fun c_1 => ?_) (fun c_1 => ?_)
  · skip
    replace c_1 : (mIn a0 0 (σ 98 1 - 1)) = false := bI_eq0.mp c_1
    refine lv_iconst (v := (-1)) hx hb dX10_odds_44 (by decide) ?_
    exact g_iret C hr hlk hW dX10_odds_45 (by simp [c_1]) (by simp [c_1]) (rfl)
  · skip
    replace c_1 : (mIn a0 0 (σ 98 1 - 1)) = true := bI_ne0.mp c_1
    refine lv_iload_n hx hb dX10_odds_13 rfl (lv_at hl 2 rfl) ?_
    refine lv_iconst (v := 0) hx hb dX10_odds_14 (by decide) ?_
    refine lv_sipush (v := 239) hx hb dX10_odds_15 (by decide) ?_
    refine g_callsI (r := bI (mIn a1 0 239)) (σ' := σ) (rest := []) (As := [.int a1, .int 0, .int 239]) C hW ks_X10_66 (m_in l G σ τ a1 0 239) ⟨Nat.le_of_ble_eq_true rfl, Nat.le_of_ble_eq_true rfl⟩ ⟨Nat.le_refl _, Nat.le_refl _⟩ rfl hl.1 rfl (Nat.le_of_ble_eq_true rfl) dX10_odds_18 (fun H locs hW => ?_)
    refine lv_if_eq (tgt := 44) hx hb dX10_odds_21 (by decide) (fun c_2 => ?_) (fun c_2 => ?_)
    · skip
      replace c_2 : (mIn a1 0 239) = false := bI_eq0.mp c_2
      refine lv_iconst (v := (-1)) hx hb dX10_odds_44 (by decide) ?_
      exact g_iret C hr hlk hW dX10_odds_45 (by simp [c_1, c_2]) (by simp [c_1, c_2]) (rfl)
    · skip
      replace c_2 : (mIn a1 0 239) = true := bI_ne0.mp c_2
      refine lv_iload_n hx hb dX10_odds_24 rfl (lv_at hl 3 rfl) ?_
      refine lv_iconst (v := 0) hx hb dX10_odds_25 (by decide) ?_
      refine lv_bipush (v := 10) hx hb dX10_odds_26 (by decide) ?_
      refine g_callsI (r := bI (mIn a2 0 10)) (σ' := σ) (rest := []) (As := [.int a2, .int 0, .int 10]) C hW ks_X10_66 (m_in l G σ τ a2 0 10) ⟨Nat.le_of_ble_eq_true rfl, Nat.le_of_ble_eq_true rfl⟩ ⟨Nat.le_refl _, Nat.le_refl _⟩ rfl hl.1 rfl (Nat.le_of_ble_eq_true rfl) dX10_odds_28 (fun H locs hW => ?_)
      refine lv_if_eq (tgt := 44) hx hb dX10_odds_31 (by decide) (fun c_3 => ?_) (fun c_3 => ?_)
      · skip
        replace c_3 : (mIn a2 0 10) = false := bI_eq0.mp c_3
        refine lv_iconst (v := (-1)) hx hb dX10_odds_44 (by decide) ?_
        exact g_iret C hr hlk hW dX10_odds_45 (by simp [c_1, c_2, c_3]) (by simp [c_1, c_2, c_3]) (rfl)
      · skip
        replace c_3 : (mIn a2 0 10) = true := bI_ne0.mp c_3
        refine lv_iload hx hb dX10_odds_34 (lv_at hl 4 rfl) ?_
        refine lv_iconst (v := 0) hx hb dX10_odds_36 (by decide) ?_
        refine lv_iconst (v := 1) hx hb dX10_odds_37 (by decide) ?_
        refine g_callsI (r := bI (mIn a3 0 1)) (σ' := σ) (rest := []) (As := [.int a3, .int 0, .int 1]) C hW ks_X10_66 (m_in l G σ τ a3 0 1) ⟨Nat.le_of_ble_eq_true rfl, Nat.le_of_ble_eq_true rfl⟩ ⟨Nat.le_refl _, Nat.le_refl _⟩ rfl hl.1 rfl (Nat.le_of_ble_eq_true rfl) dX10_odds_38 (fun H locs hW => ?_)
        refine lv_if_ne (tgt := 46) hx hb dX10_odds_41 (by decide) (fun c_4 => ?_) (fun c_4 => ?_)
        · skip
          replace c_4 : (mIn a3 0 1) = true := bI_ne0.mp c_4
          have hp0 := c_1
          rw [hN] at hp0
          have hp := mIn_nat (N := N) hp0 (by omega)
          have hq := mIn_nat (N := 11) c_3 (by decide)
          refine lv_iconst (v := 1) hx hb dX10_odds_46 (by decide) ?_
          refine lv_istore (lv' := [(5, .int 1), (0, .ref (gAd G 96)), (1, .int a0), (2, .int a1), (3, .int a2), (4, .int a3)]) hx hb dX10_odds_47 hl (by decide) rfl (fun ls hl => ?_)
          refine lv_iconst (v := 1) hx hb dX10_odds_49 (by decide) ?_
          refine lv_istore (lv' := [(6, .int 1), (5, .int 1), (0, .ref (gAd G 96)), (1, .int a0), (2, .int a1), (3, .int a2), (4, .int a3)]) hx hb dX10_odds_50 hl (by decide) rfl (fun ls hl => ?_)
          refine lv_iconst (v := 0) hx hb dX10_odds_52 (by decide) ?_
          refine lv_istore (lv' := [(7, .int 0), (6, .int 1), (5, .int 1), (0, .ref (gAd G 96)), (1, .int a0), (2, .int a1), (3, .int a2), (4, .int a3)]) hx hb dX10_odds_53 hl (by decide) rfl (fun ls hl => ?_)
          have L55 : ∀ (n : Nat) (d : Nat) (v : Int32) (w : Int32) (H : Heap) (locs : List Loc) (ls : Array Slot), n + d = D → v = (nI (10 ^ mMiss σ a0 a1 (σ 99 a0.toNatClampNeg) D d)) → w = (nI (a2.toNatClampNeg ^ mMiss σ a0 a1 (σ 99 a0.toNatClampNeg) D d)) → gW G s (gu σ 96 25 (rOddW (σ 104 16) (σ 96 25) d)) τ H locs → lv_has ls 8 [(7, .int (nI d)), (6, .int w), (5, .int v), (0, .ref (gAd G 96)), (1, .int a0), (2, .int a1), (3, .int a2), (4, .int a3)] → W p l e (gRm 2 43) s m args below meth c H locs 0 0 (MQ below (gQi G (if (mIn a0 0 (σ 98 1 - 1) = true ∧ mIn a1 0 239 = true ∧ mIn a2 0 10 = true ∧ mIn a3 0 1 = true) then (if a3 = 0 then nI ((10 ^ mMiss σ a0 a1 (σ 99 a0.toNatClampNeg) D D - a2.toNatClampNeg ^ mMiss σ a0 a1 (σ 99 a0.toNatClampNeg) D D) / Nat.gcd (10 ^ mMiss σ a0 a1 (σ 99 a0.toNatClampNeg) D D - a2.toNatClampNeg ^ mMiss σ a0 a1 (σ 99 a0.toNatClampNeg) D D) (10 ^ mMiss σ a0 a1 (σ 99 a0.toNatClampNeg) D D)) else nI ((10 ^ mMiss σ a0 a1 (σ 99 a0.toNatClampNeg) D D) / Nat.gcd (10 ^ mMiss σ a0 a1 (σ 99 a0.toNatClampNeg) D D - a2.toNatClampNeg ^ mMiss σ a0 a1 (σ 99 a0.toNatClampNeg) D D) (10 ^ mMiss σ a0 a1 (σ 99 a0.toNatClampNeg) D D))) else -1) (if (mIn a0 0 (σ 98 1 - 1) = true ∧ mIn a1 0 239 = true ∧ mIn a2 0 10 = true ∧ mIn a3 0 1 = true) then gu σ 96 25 (rOddW (σ 104 16) (σ 96 25) D) else σ) τ) args s 0 0 (gA G)) (F0 m 55 ls []) := by
            intro n
            induction n with
            | zero =>
              intro d v w H locs ls hm hv hw hW hl
              refine lv_iload hx hb dX10_odds_55 (lv_at hl 0 rfl) ?_
              refine lv_aload_n hx hb dX10_odds_57 rfl (lv_at hl 3 rfl) ?_
              refine gf_X10_13 C hW (by decide) rfl dX10_odds_58 ?_
              refine lv_iconst (v := 2) hx hb dX10_odds_61 (by decide) ?_
              refine g_ald (v := nI D) 2 C hW (by decide) rfl rfl (by decide) (by decide) hD dX10_odds_62 ?_
              refine lv_icmp_ge (tgt := 122) hx hb dX10_odds_63 (by decide) (fun _ => ?_) (fun zz => absurd (show nI D ≤ nI d from nI_le (by omega) (by omega)) zz)
              have hd : d = D := by omega
              have hv2 : v = nI (10 ^ mMiss σ a0 a1 (σ 99 a0.toNatClampNeg) D D) := by rw [hv, hd]
              have hw2 : w = nI (a2.toNatClampNeg ^ mMiss σ a0 a1 (σ 99 a0.toNatClampNeg) D D) := by rw [hw, hd]
              have hc : mMiss σ a0 a1 (σ 99 a0.toNatClampNeg) D D ≤ 8 := Nat.le_trans (rMiss_le D) hD8
              have hc3 : a2.toNatClampNeg ^ mMiss σ a0 a1 (σ 99 a0.toNatClampNeg) D D ≤ 10 ^ mMiss σ a0 a1 (σ 99 a0.toNatClampNeg) D D := Nat.pow_le_pow_left (by omega) _
              have hc2 : 10 ^ mMiss σ a0 a1 (σ 99 a0.toNatClampNeg) D D < 2 ^ 31 := Nat.lt_of_le_of_lt (Nat.pow_le_pow_right (by decide) hc) (by decide)
              have hc1 : 10 ^ mMiss σ a0 a1 (σ 99 a0.toNatClampNeg) D D - a2.toNatClampNeg ^ mMiss σ a0 a1 (σ 99 a0.toNatClampNeg) D D < 2 ^ 31 := Nat.lt_of_le_of_lt (Nat.sub_le _ _) hc2
              have hc4 : 0 < Nat.gcd (10 ^ mMiss σ a0 a1 (σ 99 a0.toNatClampNeg) D D - a2.toNatClampNeg ^ mMiss σ a0 a1 (σ 99 a0.toNatClampNeg) D D) (10 ^ mMiss σ a0 a1 (σ 99 a0.toNatClampNeg) D D) := Nat.gcd_pos_of_pos_right _ (Nat.pow_pos (by decide))
              have hc5 : Nat.gcd (10 ^ mMiss σ a0 a1 (σ 99 a0.toNatClampNeg) D D - a2.toNatClampNeg ^ mMiss σ a0 a1 (σ 99 a0.toNatClampNeg) D D) (10 ^ mMiss σ a0 a1 (σ 99 a0.toNatClampNeg) D D) < 2 ^ 31 := Nat.lt_of_le_of_lt (Nat.gcd_le_right _ (Nat.pow_pos (by decide))) hc2
              refine lv_iload hx hb dX10_odds_122 (lv_at hl 2 rfl) ?_
              refine lv_iload hx hb dX10_odds_124 (lv_at hl 1 rfl) ?_
              refine lv_isub hx hb dX10_odds_126 ?_
              refine lv_iload hx hb dX10_odds_127 (lv_at hl 2 rfl) ?_
              refine g_callsI (r := nI (Nat.gcd ((10 ^ mMiss σ a0 a1 (σ 99 a0.toNatClampNeg) D D) - (a2.toNatClampNeg ^ mMiss σ a0 a1 (σ 99 a0.toNatClampNeg) D D)) (10 ^ mMiss σ a0 a1 (σ 99 a0.toNatClampNeg) D D))) (σ' := gu σ 96 25 (rOddW (σ 104 16) (σ 96 25) d)) (rest := []) (As := [.int (v - w), .int v]) C hW ks_X10_184 (m_gcd l G (gu σ 96 25 (rOddW (σ 104 16) (σ 96 25) d)) τ (v - w) v ((10 ^ mMiss σ a0 a1 (σ 99 a0.toNatClampNeg) D D) - (a2.toNatClampNeg ^ mMiss σ a0 a1 (σ 99 a0.toNatClampNeg) D D)) (10 ^ mMiss σ a0 a1 (σ 99 a0.toNatClampNeg) D D) (gsub hv2 hw2 hc3) hv2 hc1 hc2) ⟨Nat.le_of_ble_eq_true rfl, Nat.le_of_ble_eq_true rfl⟩ ⟨Nat.le_refl _, Nat.le_refl _⟩ rfl hl.1 rfl (Nat.le_of_ble_eq_true rfl) dX10_odds_129 (fun H locs hW => ?_)
              refine lv_istore (lv' := [(7, .int (nI (Nat.gcd ((10 ^ mMiss σ a0 a1 (σ 99 a0.toNatClampNeg) D D) - (a2.toNatClampNeg ^ mMiss σ a0 a1 (σ 99 a0.toNatClampNeg) D D)) (10 ^ mMiss σ a0 a1 (σ 99 a0.toNatClampNeg) D D)))), (6, .int w), (5, .int v), (0, .ref (gAd G 96)), (1, .int a0), (2, .int a1), (3, .int a2), (4, .int a3)]) hx hb dX10_odds_132 hl (by decide) rfl (fun ls hl => ?_)
              refine lv_iload hx hb dX10_odds_134 (lv_at hl 7 rfl) ?_
              refine lv_if_ne (tgt := 150) hx hb dX10_odds_136 (by decide) (fun c_5 => ?_) (fun c_5 => ?_)
              · skip
                refine lv_iload hx hb dX10_odds_150 (lv_at hl 2 rfl) ?_
                refine lv_iload hx hb dX10_odds_152 (lv_at hl 0 rfl) ?_
                refine lv_idiv hx hb dX10_odds_154 (nI_ne0 hc4 hc5) ?_
                exact g_iret C hr hlk hW dX10_odds_155 (by rw [if_pos ⟨c_1, c_2, c_3, c_4⟩, if_neg c_5, hv2, pk_div hc2 hc4 hc5]) (by rw [if_pos ⟨c_1, c_2, c_3, c_4⟩, hd]) (rfl)
              · skip
                refine lv_iload hx hb dX10_odds_139 (lv_at hl 2 rfl) ?_
                refine lv_iload hx hb dX10_odds_141 (lv_at hl 1 rfl) ?_
                refine lv_isub hx hb dX10_odds_143 ?_
                refine lv_iload hx hb dX10_odds_144 (lv_at hl 0 rfl) ?_
                refine lv_idiv hx hb dX10_odds_146 (nI_ne0 hc4 hc5) ?_
                refine lv_goto (tgt := 155) hx hb dX10_odds_147 (by decide) ?_
                exact g_iret C hr hlk hW dX10_odds_155 (by rw [if_pos ⟨c_1, c_2, c_3, c_4⟩, if_pos c_5, gsub hv2 hw2 hc3, pk_div hc1 hc4 hc5]) (by rw [if_pos ⟨c_1, c_2, c_3, c_4⟩, hd]) (rfl)
            | succ n ih55 =>
              intro d v w H locs ls hm hv hw hW hl
              refine lv_iload hx hb dX10_odds_55 (lv_at hl 0 rfl) ?_
              refine lv_aload_n hx hb dX10_odds_57 rfl (lv_at hl 3 rfl) ?_
              refine gf_X10_13 C hW (by decide) rfl dX10_odds_58 ?_
              refine lv_iconst (v := 2) hx hb dX10_odds_61 (by decide) ?_
              refine g_ald (v := nI D) 2 C hW (by decide) rfl rfl (by decide) (by decide) hD dX10_odds_62 ?_
              refine lv_icmp_ge (tgt := 122) hx hb dX10_odds_63 (by decide) (fun zz => absurd zz (show ¬ nI D ≤ nI d from nI_ge (by omega) (by omega))) (fun _ => ?_)
              refine lv_aload_n hx hb dX10_odds_66 rfl (lv_at hl 3 rfl) ?_
              refine lv_sipush (v := 255) hx hb dX10_odds_67 (by decide) ?_
              refine lv_iconst (v := 1) hx hb dX10_odds_70 (by decide) ?_
              refine lv_iload hx hb dX10_odds_71 (lv_at hl 0 rfl) ?_
              refine lv_ishl hx hb dX10_odds_73 ?_
              refine lv_iconst (v := (-1)) hx hb dX10_odds_74 (by decide) ?_
              refine lv_ixor hx hb dX10_odds_75 ?_
              refine lv_iand hx hb dX10_odds_76 ?_
              refine lv_aload_n hx hb dX10_odds_77 rfl (lv_at hl 3 rfl) ?_
              refine gf_X10_31 C hW (by decide) rfl dX10_odds_78 ?_
              refine lv_bipush (v := 16) hx hb dX10_odds_81 (by decide) ?_
              refine g_ald (v := σ 104 16) 16 C hW (by decide) rfl rfl (by decide) (by decide) rfl dX10_odds_83 ?_
              refine lv_ior hx hb dX10_odds_84 ?_
              refine lv_topi (fun wo hwo => ?_)
              refine gp_X10_127 C hW (by decide) rfl dX10_odds_85 (fun H locs hW => ?_)
              refine lv_aload_n hx hb dX10_odds_88 rfl (lv_at hl 3 rfl) ?_
              refine lv_iload_n hx hb dX10_odds_89 rfl (lv_at hl 4 rfl) ?_
              refine lv_iload_n hx hb dX10_odds_90 rfl (lv_at hl 5 rfl) ?_
              refine lv_aload_n hx hb dX10_odds_91 rfl (lv_at hl 3 rfl) ?_
              refine gf_X10_16 C hW (by decide) rfl dX10_odds_92 ?_
              refine lv_iload_n hx hb dX10_odds_95 rfl (lv_at hl 4 rfl) ?_
              refine g_ald (v := σ 99 a0.toNatClampNeg) a0.toNatClampNeg C hW (by decide) rfl hp.1 (show a0.toNatClampNeg < 10 by omega) (by decide) rfl dX10_odds_96 ?_
              refine g_callvI (r := bI (mRung σ wo a0 a1 (σ 99 a0.toNatClampNeg) D)) (σ' := gu (gu σ 96 25 (rOddW (σ 104 16) (σ 96 25) d)) 96 25 wo) (rest := []) (As := [.int a0, .int a1, .int (σ 99 a0.toNatClampNeg)]) C hW kv_X10_133 96 (by decide) (gL_10 rfl) rfl (m_isRung l G (gu (gu σ 96 25 (rOddW (σ 104 16) (σ 96 25) d)) 96 25 wo) τ a0 a1 (σ 99 a0.toNatClampNeg) D (hD) hD8) ⟨Nat.le_of_ble_eq_true rfl, Nat.le_of_ble_eq_true rfl⟩ ⟨Nat.le_refl _, Nat.le_refl _⟩ rfl hl.1 rfl (Nat.le_of_ble_eq_true rfl) dX10_odds_97 (fun H locs hW => ?_)
              refine lv_if_eq (tgt := 116) hx hb dX10_odds_100 (by decide) (fun c_6 => ?_) (fun c_6 => ?_)
              · skip
                replace c_6 : (mRung σ wo a0 a1 (σ 99 a0.toNatClampNeg) D) = false := bI_eq0.mp c_6
                refine lv_iinc (v := nI (d + 1)) (lv' := [(7, .int (nI (d + 1))), (6, .int w), (5, .int v), (0, .ref (gAd G 96)), (1, .int a0), (2, .int a1), (3, .int a2), (4, .int a3)]) hx hb dX10_odds_116 hl (k := 0) rfl (nI_1 _) (by decide) rfl (fun ls hl => ?_)
                refine lv_goto (tgt := 55) hx hb dX10_odds_119 (by decide) ?_
                exact ih55 (d + 1) v w _ _ _ (by omega) (by rw [hv, mMiss_succ, if_neg (by rw [← hwo]; exact bneg c_6)]) (by rw [hw, mMiss_succ, if_neg (by rw [← hwo]; exact bneg c_6)]) (by rw [gu_gu, hwo] at hW; exact hW) (lv_sub hl [0, 1, 2, 3, 4, 5, 6, 7] rfl)
              · skip
                replace c_6 : (mRung σ wo a0 a1 (σ 99 a0.toNatClampNeg) D) = true := bI_ne0.mp c_6
                refine lv_iload hx hb dX10_odds_103 (lv_at hl 2 rfl) ?_
                refine lv_bipush (v := 10) hx hb dX10_odds_105 (by decide) ?_
                refine lv_imul hx hb dX10_odds_107 ?_
                refine lv_istore (lv' := [(5, .int (v * 10)), (7, .int (nI d)), (6, .int w), (0, .ref (gAd G 96)), (1, .int a0), (2, .int a1), (3, .int a2), (4, .int a3)]) hx hb dX10_odds_108 hl (by decide) rfl (fun ls hl => ?_)
                refine lv_iload hx hb dX10_odds_110 (lv_at hl 2 rfl) ?_
                refine lv_iload_n hx hb dX10_odds_112 rfl (lv_at hl 6 rfl) ?_
                refine lv_imul hx hb dX10_odds_113 ?_
                refine lv_istore (lv' := [(6, .int (w * a2)), (5, .int (v * 10)), (7, .int (nI d)), (0, .ref (gAd G 96)), (1, .int a0), (2, .int a1), (3, .int a2), (4, .int a3)]) hx hb dX10_odds_114 hl (by decide) rfl (fun ls hl => ?_)
                refine lv_iinc (v := nI (d + 1)) (lv' := [(7, .int (nI (d + 1))), (6, .int (w * a2)), (5, .int (v * 10)), (0, .ref (gAd G 96)), (1, .int a0), (2, .int a1), (3, .int a2), (4, .int a3)]) hx hb dX10_odds_116 hl (k := 2) rfl (nI_1 _) (by decide) rfl (fun ls hl => ?_)
                refine lv_goto (tgt := 55) hx hb dX10_odds_119 (by decide) ?_
                exact ih55 (d + 1) (v * 10) (w * a2) _ _ _ (by omega) (by rw [hv, mMiss_succ, if_pos (by rw [← hwo]; exact c_6), Nat.pow_succ, ← pk_mul]; rfl) (by rw [hw, mMiss_succ, if_pos (by rw [← hwo]; exact c_6), Nat.pow_succ, ← pk_mul]; rw [← hq.1]) (by rw [gu_gu, hwo] at hW; exact hW) (lv_sub hl [0, 1, 2, 3, 4, 5, 6, 7] rfl)
          exact L55 D 0 1 1 _ _ _ (by omega) (by simp only [mMiss, rMiss, Nat.pow_zero]; rfl) (by simp only [mMiss, rMiss, Nat.pow_zero]; rfl) (by rw [show rOddW (σ 104 16) (σ 96 25) 0 = σ 96 25 from rfl, gu_self]; exact hW) (lv_sub hl [0, 1, 2, 3, 4, 5, 6, 7] rfl)
        · skip
          replace c_4 : (mIn a3 0 1) = false := bI_eq0.mp c_4
          refine lv_iconst (v := (-1)) hx hb dX10_odds_44 (by decide) ?_
          exact g_iret C hr hlk hW dX10_odds_45 (by simp [c_1, c_2, c_3, c_4]) (by simp [c_1, c_2, c_3, c_4]) (rfl)
