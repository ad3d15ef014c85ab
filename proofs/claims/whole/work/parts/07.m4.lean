/-! ===== the reference: how one goes through the rest of his day ===== -/
theorem gu_up (σ : gSt) (i k : Nat) (f : Nat → Int32) (x : Int32) : gu (va_up σ i f) i k x = va_up σ i (upd f k x) := by
  funext c j
  by_cases h : c = i
  · subst h; simp [gu, va_up]
  · simp [gu, va_up, h]
def nd (a b : Nat) : Nat := if b ≤ a then a - b else b - a
theorem mWalk_nat {mn : Nat → Int32} {wk a b : Nat} (h : mn 3 = nI wk) (ha : a < 2 ^ 30) (hb : b < 2 ^ 30) : mWalk mn (nI a) (nI b) = nI (wk * nd a b) := by
  rw [mWalk, nd, h]
  by_cases q : b ≤ a
  · rw [if_pos q, if_pos (nI_le q (by omega)), pk_sub q, pk_mul]
  · rw [if_neg q, if_neg (nI_ge (by omega) (by omega)), pk_sub (by omega), pk_mul]
/-- minutes of n from mi on in which he is rung for, at no place -/
def rWay (P : Nat → Bool) (mi : Nat) : Nat → Int32
  | 0 => 0
  | k + 1 => rWay P mi k + (if P (mi + k) = true then 1 else 0)
abbrev mAway (σ : gSt) (wo p : Int32) (D : Nat) : Nat → Bool := fun m => mRung σ wo p (nI m) (-9) D
def rOnW (P : Nat → Bool) (co : Nat → Int32) (mi w t : Nat) : Int32 := if mi + w < 240 then rWay P mi w + co (6 * (mi + w) + t) else rWay P mi (240 - mi)
abbrev mOnW (σ : gSt) (wo p : Int32) (co : Nat → Int32) (D mi w t : Nat) : Int32 := rOnW (mAway σ wo p D) co mi w t
def rCost (P : Nat → Bool) (Q : Nat → Nat → Bool) (co : Nat → Int32) (wk mi a t : Nat) : Int32 := if a = t then (if Q mi a = true then 1 else 0) + co (6 * (mi + 1) + a) else rOnW P co mi (wk * nd a t) t
abbrev mThere (σ : gSt) (wo p : Int32) (D : Nat) : Nat → Nat → Bool := fun m a => mRung σ wo p (nI m) (nI a) D
abbrev mCost (σ : gSt) (wo p : Int32) (co : Nat → Int32) (D wk mi a t : Nat) : Int32 := rCost (mAway σ wo p D) (mThere σ wo p D) co wk mi a t
def rBest (P : Nat → Bool) (Q : Nat → Nat → Bool) (co : Nat → Int32) (wk mi a : Nat) : Nat → Int32
  | 0 => 1000000
  | t + 1 => if rBest P Q co wk mi a t ≤ rCost P Q co wk mi a t then rBest P Q co wk mi a t else rCost P Q co wk mi a t
def rRow (P : Nat → Bool) (Q : Nat → Nat → Bool) (wk L mi : Nat) (co : Nat → Int32) : Nat → Nat → Int32
  | 0 => co
  | a + 1 => upd (rRow P Q wk L mi co a) (6 * mi + a) (rBest P Q (rRow P Q wk L mi co a) wk mi a L)
def rZ (co : Nat → Int32) : Nat → Nat → Int32
  | 0 => co
  | k + 1 => upd (rZ co k) (1440 + k) 0
def rMeas (P : Nat → Bool) (Q : Nat → Nat → Bool) (wk L : Nat) (co : Nat → Int32) : Nat → Nat → Int32
  | 0 => rZ co 6
  | j + 1 => rRow P Q wk L (239 - j) (rMeas P Q wk L co j) L
abbrev mMeas (σ : gSt) (wo p : Int32) (D wk L : Nat) (j : Nat) : Nat → Int32 := rMeas (mAway σ wo p D) (mThere σ wo p D) wk L (σ 111) j
abbrev mMeasS (σ : gSt) (wo p : Int32) (D wk L j : Nat) : gSt := va_up σ 111 (mMeas σ wo p D wk L j)
/-- the first place from t on of n by which it is as few -/
def rTo (f : Nat → Int32) (c : Int32) : Nat → Nat → Int32
  | 0, t => nI t
  | n + 1, t => if f t = c then nI t else rTo f c n (t + 1)
theorem pred_lt {mi : Nat} (h : mi < 2 ^ 30) : nI mi - 1 < nI mi := by
  rw [Int32.lt_iff_toInt_lt, show (1 : Int32) = nI 1 from rfl, pk_sub_toInt h (by decide), nI_toInt (by omega)]
  omega
set_option maxHeartbeats 4000000 in
set_option maxRecDepth 100000 in
theorem m_onWay (l : Launch) (G : gG) (σ : gSt) (τ : Nat → Int64) (a0 a1 a2 a3 : Int32) (mi w t : Nat) (h1 : a1 = nI mi) (h2 : a2 = nI w) (h3 : a3 = nI t) (hmi2 : mi ≤ 240) (hw2 : w ≤ 1000) (ht : t < 6) (D : Nat) (hD : σ 98 2 = nI D) (hD8 : D ≤ 8) : gI l yX10_onWay cX10_onWay 7 (some .int) 1 26 G [.ref (gAd G 96), .int a0, .int a1, .int a2, .int a3] σ τ (mOnW σ (σ 96 25) a0 (σ 111) D mi w t) σ τ := by
  refine gMet_of (by decide) (Nat.le_of_ble_eq_true rfl) ?_
  intro p e s m args below meth c C hr hlk ls hl hW
  have hx := C.1
  have hb := C.2.1
  have hl : lv_has ls 7 [(0, .ref (gAd G 96)), (1, .int a0), (2, .int a1), (3, .int a2), (4, .int a3)] := hl
  rw [h1, h2, h3] at hl
  obtain ⟨it, hi1, hi2, hi3⟩ : ∃ it, it ≤ w ∧ mi + it ≤ 240 ∧ (it = w ∨ mi + it = 240) := by
    rcases Nat.lt_or_ge (mi + w) 240 with q | q
    · exact ⟨w, by omega, by omega, by omega⟩
    · exact ⟨240 - mi, by omega, by omega, by omega⟩
  refine lv_iconst (v := 0) hx hb dX10_onWay_0 (by decide) ?_
  refine lv_istore (lv' := [(5, .int 0), (0, .ref (gAd G 96)), (1, .int a0), (2, .int (nI mi)), (3, .int (nI w)), (4, .int (nI t))]) hx hb dX10_onWay_1 hl (by decide) rfl (fun ls hl => ?_)
  refine lv_iconst (v := 0) hx hb dX10_onWay_3 (by decide) ?_
  refine lv_istore (lv' := [(6, .int 0), (5, .int 0), (0, .ref (gAd G 96)), (1, .int a0), (2, .int (nI mi)), (3, .int (nI w)), (4, .int (nI t))]) hx hb dX10_onWay_4 hl (by decide) rfl (fun ls hl => ?_)
  have L6 : ∀ (n : Nat) (k : Nat) (v : Int32) (H : Heap) (locs : List Loc) (ls : Array Slot), n + k = it → v = (rWay (mAway σ (σ 96 25) a0 D) mi k) → gW G s σ τ H locs → lv_has ls 7 [(6, .int (nI k)), (5, .int v), (0, .ref (gAd G 96)), (1, .int a0), (2, .int (nI mi)), (3, .int (nI w)), (4, .int (nI t))] → W p l e (gRm 1 26) s m args below meth c H locs 0 0 (MQ below (gQi G (mOnW σ (σ 96 25) a0 (σ 111) D mi w t) σ τ) args s 0 0 (gA G)) (F0 m 6 ls []) := by
    intro n
    induction n with
    | zero =>
      intro k v H locs ls hm hv hW hl
      refine lv_iload hx hb dX10_onWay_6 (lv_at hl 0 rfl) ?_
      refine lv_iload_n hx hb dX10_onWay_8 rfl (lv_at hl 5 rfl) ?_
      refine lv_icmp_ge (tgt := 52) hx hb dX10_onWay_9 (by decide) (fun c_1 => ?_) (fun c_1 => ?_)
      · skip
        replace c_1 : w ≤ k := (nI_leI (a := w) (b := k) (by omega) (by omega)).mp c_1
        refine lv_iload_n hx hb dX10_onWay_52 rfl (lv_at hl 4 rfl) ?_
        refine lv_iload_n hx hb dX10_onWay_53 rfl (lv_at hl 5 rfl) ?_
        refine lv_iadd hx hb dX10_onWay_54 ?_
        refine lv_sipush (v := 240) hx hb dX10_onWay_55 (by decide) ?_
        refine lv_icmp_lt (tgt := 66) hx hb dX10_onWay_58 (by decide) (fun c_2 => ?_) (fun c_2 => ?_)
        · skip
          have qc_2 := c_2
          rw [(gadd (rfl : nI mi = nI mi) (rfl : nI w = nI w))] at qc_2
          replace c_2 : (mi + w) < 240 := (nI_ltI (a := (mi + w)) (b := 240) (by omega) (by omega)).mp qc_2
          refine lv_iload hx hb dX10_onWay_66 (lv_at hl 1 rfl) ?_
          refine lv_aload_n hx hb dX10_onWay_68 rfl (lv_at hl 2 rfl) ?_
          refine gf_X10_53 C hW (by decide) rfl dX10_onWay_69 ?_
          refine lv_bipush (v := 6) hx hb dX10_onWay_72 (by decide) ?_
          refine lv_iload_n hx hb dX10_onWay_74 rfl (lv_at hl 4 rfl) ?_
          refine lv_iload_n hx hb dX10_onWay_75 rfl (lv_at hl 5 rfl) ?_
          refine lv_iadd hx hb dX10_onWay_76 ?_
          refine lv_imul hx hb dX10_onWay_77 ?_
          refine lv_iload hx hb dX10_onWay_78 (lv_at hl 6 rfl) ?_
          refine lv_iadd hx hb dX10_onWay_80 ?_
          refine g_ald (v := σ 111 ((6 * (mi + w)) + t)) ((6 * (mi + w)) + t) C hW (by decide) rfl (gadd (gmul (rfl : 6 = nI 6) (gadd (rfl : nI mi = nI mi) (rfl : nI w = nI w))) (rfl : nI t = nI t)) (show ((6 * (mi + w)) + t) < 1446 by omega) (by decide) rfl dX10_onWay_81 ?_
          refine lv_iadd hx hb dX10_onWay_82 ?_
          exact g_iret C hr hlk hW dX10_onWay_83 (by rw [mOnW, rOnW, if_pos c_2, hv, show k = w by omega]) (rfl) (rfl)
        · skip
          have qc_2 := c_2
          rw [(gadd (rfl : nI mi = nI mi) (rfl : nI w = nI w))] at qc_2
          replace c_2 : 240 ≤ (mi + w) := Nat.not_lt.mp (mt (nI_ltI (a := (mi + w)) (b := 240) (by omega) (by omega)).mpr qc_2)
          refine lv_iload hx hb dX10_onWay_61 (lv_at hl 1 rfl) ?_
          refine lv_goto (tgt := 83) hx hb dX10_onWay_63 (by decide) ?_
          exact g_iret C hr hlk hW dX10_onWay_83 (by rw [mOnW, rOnW, if_neg (by omega), hv, show k = 240 - mi by omega]) (rfl) (rfl)
      · skip
        replace c_1 : k < w := Nat.not_le.mp (mt (nI_leI (a := w) (b := k) (by omega) (by omega)).mpr c_1)
        refine lv_iload_n hx hb dX10_onWay_12 rfl (lv_at hl 4 rfl) ?_
        refine lv_iload hx hb dX10_onWay_13 (lv_at hl 0 rfl) ?_
        refine lv_iadd hx hb dX10_onWay_15 ?_
        refine lv_sipush (v := 240) hx hb dX10_onWay_16 (by decide) ?_
        refine lv_icmp_ge (tgt := 52) hx hb dX10_onWay_19 (by decide) (fun _ => ?_) (fun zz => absurd (by rw [(gadd (rfl : nI mi = nI mi) (rfl : nI k = nI k))]; exact (show nI 240 ≤ nI (mi + k) from nI_le (by omega) (by omega))) zz)
        refine lv_iload_n hx hb dX10_onWay_52 rfl (lv_at hl 4 rfl) ?_
        refine lv_iload_n hx hb dX10_onWay_53 rfl (lv_at hl 5 rfl) ?_
        refine lv_iadd hx hb dX10_onWay_54 ?_
        refine lv_sipush (v := 240) hx hb dX10_onWay_55 (by decide) ?_
        refine lv_icmp_lt (tgt := 66) hx hb dX10_onWay_58 (by decide) (fun c_3 => ?_) (fun c_3 => ?_)
        · skip
          have qc_3 := c_3
          rw [(gadd (rfl : nI mi = nI mi) (rfl : nI w = nI w))] at qc_3
          replace c_3 : (mi + w) < 240 := (nI_ltI (a := (mi + w)) (b := 240) (by omega) (by omega)).mp qc_3
          refine lv_iload hx hb dX10_onWay_66 (lv_at hl 1 rfl) ?_
          refine lv_aload_n hx hb dX10_onWay_68 rfl (lv_at hl 2 rfl) ?_
          refine gf_X10_53 C hW (by decide) rfl dX10_onWay_69 ?_
          refine lv_bipush (v := 6) hx hb dX10_onWay_72 (by decide) ?_
          refine lv_iload_n hx hb dX10_onWay_74 rfl (lv_at hl 4 rfl) ?_
          refine lv_iload_n hx hb dX10_onWay_75 rfl (lv_at hl 5 rfl) ?_
          refine lv_iadd hx hb dX10_onWay_76 ?_
          refine lv_imul hx hb dX10_onWay_77 ?_
          refine lv_iload hx hb dX10_onWay_78 (lv_at hl 6 rfl) ?_
          refine lv_iadd hx hb dX10_onWay_80 ?_
          refine g_ald (v := σ 111 ((6 * (mi + w)) + t)) ((6 * (mi + w)) + t) C hW (by decide) rfl (gadd (gmul (rfl : 6 = nI 6) (gadd (rfl : nI mi = nI mi) (rfl : nI w = nI w))) (rfl : nI t = nI t)) (show ((6 * (mi + w)) + t) < 1446 by omega) (by decide) rfl dX10_onWay_81 ?_
          refine lv_iadd hx hb dX10_onWay_82 ?_
          exact g_iret C hr hlk hW dX10_onWay_83 (by rw [mOnW, rOnW, if_pos c_3, hv, show k = w by omega]) (rfl) (rfl)
        · skip
          have qc_3 := c_3
          rw [(gadd (rfl : nI mi = nI mi) (rfl : nI w = nI w))] at qc_3
          replace c_3 : 240 ≤ (mi + w) := Nat.not_lt.mp (mt (nI_ltI (a := (mi + w)) (b := 240) (by omega) (by omega)).mpr qc_3)
          refine lv_iload hx hb dX10_onWay_61 (lv_at hl 1 rfl) ?_
          refine lv_goto (tgt := 83) hx hb dX10_onWay_63 (by decide) ?_
          exact g_iret C hr hlk hW dX10_onWay_83 (by rw [mOnW, rOnW, if_neg (by omega), hv, show k = 240 - mi by omega]) (rfl) (rfl)
    | succ n ih6 =>
      intro k v H locs ls hm hv hW hl
      refine lv_iload hx hb dX10_onWay_6 (lv_at hl 0 rfl) ?_
      refine lv_iload_n hx hb dX10_onWay_8 rfl (lv_at hl 5 rfl) ?_
      refine lv_icmp_ge (tgt := 52) hx hb dX10_onWay_9 (by decide) (fun zz => absurd zz (show ¬ nI w ≤ nI k from nI_ge (by omega) (by omega))) (fun _ => ?_)
      refine lv_iload_n hx hb dX10_onWay_12 rfl (lv_at hl 4 rfl) ?_
      refine lv_iload hx hb dX10_onWay_13 (lv_at hl 0 rfl) ?_
      refine lv_iadd hx hb dX10_onWay_15 ?_
      refine lv_sipush (v := 240) hx hb dX10_onWay_16 (by decide) ?_
      refine lv_icmp_ge (tgt := 52) hx hb dX10_onWay_19 (by decide) (fun zz => absurd zz (by rw [(gadd (rfl : nI mi = nI mi) (rfl : nI k = nI k))]; exact (show ¬ nI 240 ≤ nI (mi + k) from nI_ge (by omega) (by omega)))) (fun _ => ?_)
      refine lv_iload hx hb dX10_onWay_22 (lv_at hl 1 rfl) ?_
      refine lv_aload_n hx hb dX10_onWay_24 rfl (lv_at hl 2 rfl) ?_
      refine lv_iload_n hx hb dX10_onWay_25 rfl (lv_at hl 3 rfl) ?_
      refine lv_iload_n hx hb dX10_onWay_26 rfl (lv_at hl 4 rfl) ?_
      refine lv_iload hx hb dX10_onWay_27 (lv_at hl 0 rfl) ?_
      refine lv_iadd hx hb dX10_onWay_29 ?_
      refine lv_bipush (v := (-9)) hx hb dX10_onWay_30 (by decide) ?_
      refine g_callvI (r := bI (mRung σ (σ 96 25) a0 (nI mi + nI k) (-9) D)) (σ' := σ) (rest := [.int v]) (As := [.int a0, .int ((nI mi) + (nI k)), .int (-9)]) C hW kv_X10_133 96 (by decide) (gL_10 rfl) rfl (m_isRung l G σ τ a0 ((nI mi) + (nI k)) (-9) D hD hD8) ⟨Nat.le_of_ble_eq_true rfl, Nat.le_of_ble_eq_true rfl⟩ ⟨Nat.le_refl _, Nat.le_refl _⟩ rfl hl.1 rfl (Nat.le_of_ble_eq_true rfl) dX10_onWay_32 (fun H locs hW => ?_)
      refine lv_if_eq (tgt := 42) hx hb dX10_onWay_35 (by decide) (fun c_4 => ?_) (fun c_4 => ?_)
      · skip
        replace c_4 : (mRung σ (σ 96 25) a0 (nI mi + nI k) (-9) D) = false := bI_eq0.mp c_4
        refine lv_iconst (v := 0) hx hb dX10_onWay_42 (by decide) ?_
        refine lv_iadd hx hb dX10_onWay_43 ?_
        refine lv_istore (lv' := [(5, .int (v + 0)), (6, .int (nI k)), (0, .ref (gAd G 96)), (1, .int a0), (2, .int (nI mi)), (3, .int (nI w)), (4, .int (nI t))]) hx hb dX10_onWay_44 hl (by decide) rfl (fun ls hl => ?_)
        refine lv_iinc (v := nI (k + 1)) (lv' := [(6, .int (nI (k + 1))), (5, .int (v + 0)), (0, .ref (gAd G 96)), (1, .int a0), (2, .int (nI mi)), (3, .int (nI w)), (4, .int (nI t))]) hx hb dX10_onWay_46 hl (k := 1) rfl (nI_1 _) (by decide) rfl (fun ls hl => ?_)
        refine lv_goto (tgt := 6) hx hb dX10_onWay_49 (by decide) ?_
        exact ih6 (k + 1) (v + 0) _ _ _ (by omega) (by rw [rWay, ← hv]; have e := c_4; rw [nI_add] at e; simp [e]) hW (lv_sub hl [0, 1, 2, 3, 4, 5, 6] rfl)
      · skip
        replace c_4 : (mRung σ (σ 96 25) a0 (nI mi + nI k) (-9) D) = true := bI_ne0.mp c_4
        refine lv_iconst (v := 1) hx hb dX10_onWay_38 (by decide) ?_
        refine lv_goto (tgt := 43) hx hb dX10_onWay_39 (by decide) ?_
        refine lv_iadd hx hb dX10_onWay_43 ?_
        refine lv_istore (lv' := [(5, .int (v + 1)), (6, .int (nI k)), (0, .ref (gAd G 96)), (1, .int a0), (2, .int (nI mi)), (3, .int (nI w)), (4, .int (nI t))]) hx hb dX10_onWay_44 hl (by decide) rfl (fun ls hl => ?_)
        refine lv_iinc (v := nI (k + 1)) (lv' := [(6, .int (nI (k + 1))), (5, .int (v + 1)), (0, .ref (gAd G 96)), (1, .int a0), (2, .int (nI mi)), (3, .int (nI w)), (4, .int (nI t))]) hx hb dX10_onWay_46 hl (k := 1) rfl (nI_1 _) (by decide) rfl (fun ls hl => ?_)
        refine lv_goto (tgt := 6) hx hb dX10_onWay_49 (by decide) ?_
        exact ih6 (k + 1) (v + 1) _ _ _ (by omega) (by rw [rWay, ← hv]; have e := c_4; rw [nI_add] at e; simp [e]) hW (lv_sub hl [0, 1, 2, 3, 4, 5, 6] rfl)
  exact L6 it 0 0 _ _ _ (by omega) (by first | rfl | simp [bI]) hW (lv_sub hl [0, 1, 2, 3, 4, 5, 6] rfl)
set_option maxHeartbeats 4000000 in
set_option maxRecDepth 100000 in
theorem m_costBy (l : Launch) (G : gG) (σ : gSt) (τ : Nat → Int64) (a0 a1 a2 a3 : Int32) (mi a t : Nat) (h1 : a1 = nI mi) (h2 : a2 = nI a) (h3 : a3 = nI t) (hmi2 : mi < 240) (ha : a < 6) (ht : t < 6) (D : Nat) (hD : σ 98 2 = nI D) (hD8 : D ≤ 8) (wk : Nat) (hwk : σ 98 3 = nI wk) (hwk9 : wk ≤ 9) : gI l yX10_costBy cX10_costBy 5 (some .int) 2 52 G [.ref (gAd G 96), .int a0, .int a1, .int a2, .int a3] σ τ (mCost σ (σ 96 25) a0 (σ 111) D wk mi a t) σ τ := by
  refine gMet_of (by decide) (Nat.le_of_ble_eq_true rfl) ?_
  intro p e s m args below meth c C hr hlk ls hl hW
  have hx := C.1
  have hb := C.2.1
  have hl : lv_has ls 5 [(0, .ref (gAd G 96)), (1, .int a0), (2, .int a1), (3, .int a2), (4, .int a3)] := hl
  rw [h1, h2, h3] at hl
  refine lv_iload_n hx hb dX10_costBy_0 rfl (lv_at hl 3 rfl) ?_
  refine lv_iload hx hb dX10_costBy_1 (lv_at hl 4 rfl) ?_
  refine lv_icmp_ne (tgt := 36) hx hb dX10_costBy_3 (by decide) (fun c_1 => ?_) (fun c_1 => ?_)
  · skip
    replace c_1 : ¬ a = t := mt (nI_eq (a := a) (b := t) (by omega) (by omega)).mpr c_1
    have hnd : wk * nd a t ≤ 1000 := by
      have q : nd a t ≤ 6 := by unfold nd; split <;> omega
      exact Nat.le_trans (Nat.mul_le_mul hwk9 q) (by decide)
    refine lv_aload_n hx hb dX10_costBy_36 rfl (lv_at hl 0 rfl) ?_
    refine lv_iload_n hx hb dX10_costBy_37 rfl (lv_at hl 1 rfl) ?_
    refine lv_iload_n hx hb dX10_costBy_38 rfl (lv_at hl 2 rfl) ?_
    refine lv_aload_n hx hb dX10_costBy_39 rfl (lv_at hl 0 rfl) ?_
    refine lv_iload_n hx hb dX10_costBy_40 rfl (lv_at hl 3 rfl) ?_
    refine lv_iload hx hb dX10_costBy_41 (lv_at hl 4 rfl) ?_
    refine g_callvI (r := mWalk (σ 98) (nI a) (nI t)) (σ' := σ) (rest := [.int (nI mi), .int a0, .ref (gAd G 96)]) (As := [.int (nI a), .int (nI t)]) C hW kv_X10_161 96 (by decide) (gL_10 rfl) rfl (m_walk l G σ τ (nI a) (nI t)) ⟨Nat.le_of_ble_eq_true rfl, Nat.le_of_ble_eq_true rfl⟩ ⟨Nat.le_refl _, Nat.le_refl _⟩ rfl hl.1 rfl (Nat.le_of_ble_eq_true rfl) dX10_costBy_43 (fun H locs hW => ?_)
    refine lv_iload hx hb dX10_costBy_46 (lv_at hl 4 rfl) ?_
    refine g_callvI (r := mOnW σ (σ 96 25) a0 (σ 111) D mi (wk * nd a t) t) (σ' := σ) (rest := []) (As := [.int a0, .int (nI mi), .int (mWalk (σ 98) (nI a) (nI t)), .int (nI t)]) C hW kv_X10_173 96 (by decide) (gL_10 rfl) rfl (m_onWay l G σ τ a0 (nI mi) (mWalk (σ 98) (nI a) (nI t)) (nI t) mi (wk * nd a t) t rfl (mWalk_nat hwk (by omega) (by omega)) rfl (by omega) hnd ht D hD hD8) ⟨Nat.le_of_ble_eq_true rfl, Nat.le_of_ble_eq_true rfl⟩ ⟨Nat.le_refl _, Nat.le_refl _⟩ rfl hl.1 rfl (Nat.le_of_ble_eq_true rfl) dX10_costBy_48 (fun H locs hW => ?_)
    exact g_iret C hr hlk hW dX10_costBy_51 (by rw [mCost, rCost, if_neg c_1]) (rfl) (rfl)
  · skip
    replace c_1 : a = t := (nI_eq (a := a) (b := t) (by omega) (by omega)).mp c_1
    refine lv_aload_n hx hb dX10_costBy_6 rfl (lv_at hl 0 rfl) ?_
    refine lv_iload_n hx hb dX10_costBy_7 rfl (lv_at hl 1 rfl) ?_
    refine lv_iload_n hx hb dX10_costBy_8 rfl (lv_at hl 2 rfl) ?_
    refine lv_iload_n hx hb dX10_costBy_9 rfl (lv_at hl 3 rfl) ?_
    refine g_callvI (r := bI (mRung σ (σ 96 25) a0 (nI mi) (nI a) D)) (σ' := σ) (rest := []) (As := [.int a0, .int (nI mi), .int (nI a)]) C hW kv_X10_133 96 (by decide) (gL_10 rfl) rfl (m_isRung l G σ τ a0 (nI mi) (nI a) D (hD) hD8) ⟨Nat.le_of_ble_eq_true rfl, Nat.le_of_ble_eq_true rfl⟩ ⟨Nat.le_refl _, Nat.le_refl _⟩ rfl hl.1 rfl (Nat.le_of_ble_eq_true rfl) dX10_costBy_10 (fun H locs hW => ?_)
    refine lv_if_eq (tgt := 20) hx hb dX10_costBy_13 (by decide) (fun c_2 => ?_) (fun c_2 => ?_)
    · skip
      replace c_2 : (mRung σ (σ 96 25) a0 (nI mi) (nI a) D) = false := bI_eq0.mp c_2
      refine lv_iconst (v := 0) hx hb dX10_costBy_20 (by decide) ?_
      refine lv_aload_n hx hb dX10_costBy_21 rfl (lv_at hl 0 rfl) ?_
      refine gf_X10_53 C hW (by decide) rfl dX10_costBy_22 ?_
      refine lv_bipush (v := 6) hx hb dX10_costBy_25 (by decide) ?_
      refine lv_iload_n hx hb dX10_costBy_27 rfl (lv_at hl 2 rfl) ?_
      refine lv_iconst (v := 1) hx hb dX10_costBy_28 (by decide) ?_
      refine lv_iadd hx hb dX10_costBy_29 ?_
      refine lv_imul hx hb dX10_costBy_30 ?_
      refine lv_iload_n hx hb dX10_costBy_31 rfl (lv_at hl 3 rfl) ?_
      refine lv_iadd hx hb dX10_costBy_32 ?_
      refine g_ald (v := σ 111 ((6 * (mi + 1)) + a)) ((6 * (mi + 1)) + a) C hW (by decide) rfl (gadd (gmul (rfl : 6 = nI 6) (gadd (rfl : nI mi = nI mi) (rfl : 1 = nI 1))) (rfl : nI a = nI a)) (show ((6 * (mi + 1)) + a) < 1446 by omega) (by decide) rfl dX10_costBy_33 ?_
      refine lv_iadd hx hb dX10_costBy_34 ?_
      exact g_iret C hr hlk hW dX10_costBy_35 (by rw [mCost, rCost, if_pos c_1]; simp only [mThere]; simp [c_2]) (rfl) (rfl)
    · skip
      replace c_2 : (mRung σ (σ 96 25) a0 (nI mi) (nI a) D) = true := bI_ne0.mp c_2
      refine lv_iconst (v := 1) hx hb dX10_costBy_16 (by decide) ?_
      refine lv_goto (tgt := 21) hx hb dX10_costBy_17 (by decide) ?_
      refine lv_aload_n hx hb dX10_costBy_21 rfl (lv_at hl 0 rfl) ?_
      refine gf_X10_53 C hW (by decide) rfl dX10_costBy_22 ?_
      refine lv_bipush (v := 6) hx hb dX10_costBy_25 (by decide) ?_
      refine lv_iload_n hx hb dX10_costBy_27 rfl (lv_at hl 2 rfl) ?_
      refine lv_iconst (v := 1) hx hb dX10_costBy_28 (by decide) ?_
      refine lv_iadd hx hb dX10_costBy_29 ?_
      refine lv_imul hx hb dX10_costBy_30 ?_
      refine lv_iload_n hx hb dX10_costBy_31 rfl (lv_at hl 3 rfl) ?_
      refine lv_iadd hx hb dX10_costBy_32 ?_
      refine g_ald (v := σ 111 ((6 * (mi + 1)) + a)) ((6 * (mi + 1)) + a) C hW (by decide) rfl (gadd (gmul (rfl : 6 = nI 6) (gadd (rfl : nI mi = nI mi) (rfl : 1 = nI 1))) (rfl : nI a = nI a)) (show ((6 * (mi + 1)) + a) < 1446 by omega) (by decide) rfl dX10_costBy_33 ?_
      refine lv_iadd hx hb dX10_costBy_34 ?_
      exact g_iret C hr hlk hW dX10_costBy_35 (by rw [mCost, rCost, if_pos c_1]; simp only [mThere]; simp [c_2]) (rfl) (rfl)
set_option maxHeartbeats 4000000 in
set_option maxRecDepth 100000 in
theorem m_measures (l : Launch) (G : gG) (σ : gSt) (τ : Nat → Int64) (a0 : Int32) (D : Nat) (hD : σ 98 2 = nI D) (hD8 : D ≤ 8) (wk : Nat) (hwk : σ 98 3 = nI wk) (hwk9 : wk ≤ 9) (P : Nat) (hP : σ 98 0 = nI P) (hP6 : P ≤ 6) (mi : Nat) (hmi : σ 104 15 = nI mi) (hmi2 : mi ≤ 240) : gV l yX10_measures cX10_measures 7 (none : Option Jvm.ClassFile.FieldType) 3 76 G [.ref (gAd G 96), .int a0] σ τ (mMeasS σ (σ 96 25) a0 D wk P (240 - mi)) τ := by
  refine gMet_of (by decide) (Nat.le_of_ble_eq_true rfl) ?_
  intro p e s m args below meth c C hr hlk ls hl hW
  have hx := C.1
  have hb := C.2.1
  have hl : lv_has ls 7 [(0, .ref (gAd G 96)), (1, .int a0)] := hl
  refine lv_iconst (v := 0) hx hb dX10_measures_0 (by decide) ?_
  refine lv_istore_n (lv' := [(2, .int 0), (0, .ref (gAd G 96)), (1, .int a0)]) hx hb dX10_measures_1 rfl hl (by decide) rfl (fun ls hl => ?_)
  have L2 : ∀ (n : Nat) (k : Nat) (H : Heap) (locs : List Loc) (ls : Array Slot), n + k = 6 → gW G s (va_up σ 111 (rZ (σ 111) k)) τ H locs → lv_has ls 7 [(2, .int (nI k)), (0, .ref (gAd G 96)), (1, .int a0)] → W p l e (gRm 3 76) s m args below meth c H locs 0 0 (MQ below (gQv G (mMeasS σ (σ 96 25) a0 D wk P (240 - mi)) τ) args s 0 0 (gA G)) (F0 m 2 ls []) := by
    intro n
    induction n with
    | zero =>
      intro k H locs ls hm hW hl
      refine lv_iload_n hx hb dX10_measures_2 rfl (lv_at hl 0 rfl) ?_
      refine lv_bipush (v := 6) hx hb dX10_measures_3 (by decide) ?_
      refine lv_icmp_ge (tgt := 25) hx hb dX10_measures_5 (by decide) (fun _ => ?_) (fun zz => absurd (show nI 6 ≤ nI k from nI_le (by omega) (by omega)) zz)
      refine lv_sipush (v := 239) hx hb dX10_measures_25 (by decide) ?_
      refine lv_istore_n (lv' := [(2, .int 239), (0, .ref (gAd G 96)), (1, .int a0)]) hx hb dX10_measures_28 rfl hl (by decide) rfl (fun ls hl => ?_)
      have L29 : ∀ (n : Nat) (j : Nat) (v : Int32) (H : Heap) (locs : List Loc) (ls : Array Slot), n + j = 240 - mi → v = (nI (mi + n) - 1) → gW G s (va_up σ 111 (mMeas σ (σ 96 25) a0 D wk P j)) τ H locs → lv_has ls 7 [(2, .int v), (0, .ref (gAd G 96)), (1, .int a0)] → W p l e (gRm 3 76) s m args below meth c H locs 0 0 (MQ below (gQv G (mMeasS σ (σ 96 25) a0 D wk P (240 - mi)) τ) args s 0 0 (gA G)) (F0 m 29 ls []) := by
        intro n
        induction n with
        | zero =>
          intro j v H locs ls hm hv hW hl
          refine lv_iload_n hx hb dX10_measures_29 rfl (lv_at hl 0 rfl) ?_
          refine lv_aload_n hx hb dX10_measures_30 rfl (lv_at hl 1 rfl) ?_
          refine gf_X10_31 C hW (by decide) rfl dX10_measures_31 ?_
          refine lv_bipush (v := 15) hx hb dX10_measures_34 (by decide) ?_
          refine g_ald (v := nI mi) 15 C hW (by decide) rfl rfl (by decide) (by decide) hmi dX10_measures_36 ?_
          refine lv_icmp_lt (tgt := 128) hx hb dX10_measures_37 (by decide) (fun _ => ?_) (fun zz => absurd (show v < nI mi from by rw [hv]; exact pred_lt (by omega)) zz)
          exact g_vret C hr hlk hW dX10_measures_128 (by rw [mMeasS, show j = 240 - mi by omega]) (rfl)
        | succ n ih29 =>
          intro j v H locs ls hm hv hW hl
          have hv2 : v = nI (mi + n) := by rw [hv]; exact nI_pred _
          refine lv_iload_n hx hb dX10_measures_29 rfl (lv_at hl 0 rfl) ?_
          refine lv_aload_n hx hb dX10_measures_30 rfl (lv_at hl 1 rfl) ?_
          refine gf_X10_31 C hW (by decide) rfl dX10_measures_31 ?_
          refine lv_bipush (v := 15) hx hb dX10_measures_34 (by decide) ?_
          refine g_ald (v := nI mi) 15 C hW (by decide) rfl rfl (by decide) (by decide) hmi dX10_measures_36 ?_
          refine lv_icmp_lt (tgt := 128) hx hb dX10_measures_37 (by decide) (fun zz => absurd zz (by rw [hv2]; exact (show ¬ nI (mi + n) < nI mi from nI_nlt (by omega) (by omega)))) (fun _ => ?_)
          refine lv_iconst (v := 0) hx hb dX10_measures_40 (by decide) ?_
          refine lv_istore_n (lv' := [(3, .int 0), (2, .int v), (0, .ref (gAd G 96)), (1, .int a0)]) hx hb dX10_measures_41 rfl hl (by decide) rfl (fun ls hl => ?_)
          have L42 : ∀ (n_ : Nat) (a_ : Nat) (H : Heap) (locs : List Loc) (ls : Array Slot), n_ + a_ = P → gW G s (va_up σ 111 (rRow (mAway σ (σ 96 25) a0 D) (mThere σ (σ 96 25) a0 D) wk P (mi + n) (mMeas σ (σ 96 25) a0 D wk P j) a_)) τ H locs → lv_has ls 7 [(3, .int (nI a_)), (2, .int v), (0, .ref (gAd G 96)), (1, .int a0)] → W p l e (gRm 3 76) s m args below meth c H locs 0 0 (MQ below (gQv G (mMeasS σ (σ 96 25) a0 D wk P (240 - mi)) τ) args s 0 0 (gA G)) (F0 m 42 ls []) := by
            intro n_
            induction n_ with
            | zero =>
              intro a_ H locs ls hm hW hl
              refine lv_iload_n hx hb dX10_measures_42 rfl (lv_at hl 0 rfl) ?_
              refine lv_aload_n hx hb dX10_measures_43 rfl (lv_at hl 2 rfl) ?_
              refine gf_X10_13 C hW (by decide) rfl dX10_measures_44 ?_
              refine lv_iconst (v := 0) hx hb dX10_measures_47 (by decide) ?_
              refine g_ald (v := nI P) 0 C hW (by decide) rfl rfl (by decide) (by decide) hP dX10_measures_48 ?_
              refine lv_icmp_ge (tgt := 122) hx hb dX10_measures_49 (by decide) (fun _ => ?_) (fun zz => absurd (show nI P ≤ nI a_ from nI_le (by omega) (by omega)) zz)
              refine lv_iinc (v := v - 1) (lv' := [(2, .int (v - 1)), (3, .int (nI a_)), (0, .ref (gAd G 96)), (1, .int a0)]) hx hb dX10_measures_122 hl (k := 1) rfl (gdec _) (by decide) rfl (fun ls hl => ?_)
              refine lv_goto (tgt := 29) hx hb dX10_measures_125 (by decide) ?_
              exact ih29 (j + 1) (v - 1) _ _ _ (by omega) (by rw [hv2]) (by have ha_ : a_ = P := (by omega); subst ha_; rw [mMeas, rMeas, show 239 - j = mi + n by omega]; exact hW) (lv_sub hl [0, 2, 3] rfl)
            | succ n_ ih42 =>
              intro a_ H locs ls hm hW hl
              refine lv_iload_n hx hb dX10_measures_42 rfl (lv_at hl 0 rfl) ?_
              refine lv_aload_n hx hb dX10_measures_43 rfl (lv_at hl 2 rfl) ?_
              refine gf_X10_13 C hW (by decide) rfl dX10_measures_44 ?_
              refine lv_iconst (v := 0) hx hb dX10_measures_47 (by decide) ?_
              refine g_ald (v := nI P) 0 C hW (by decide) rfl rfl (by decide) (by decide) hP dX10_measures_48 ?_
              refine lv_icmp_ge (tgt := 122) hx hb dX10_measures_49 (by decide) (fun zz => absurd zz (show ¬ nI P ≤ nI a_ from nI_ge (by omega) (by omega))) (fun _ => ?_)
              refine lv_ldc (v := 1000000) hx hb C.2.2.2.1 (C.2.2.2.2.1 _ kcn_X10_177) dX10_measures_52 ?_
              refine lv_istore (lv' := [(4, .int 1000000), (3, .int (nI a_)), (2, .int v), (0, .ref (gAd G 96)), (1, .int a0)]) hx hb dX10_measures_54 hl (by decide) rfl (fun ls hl => ?_)
              refine lv_iconst (v := 0) hx hb dX10_measures_56 (by decide) ?_
              refine lv_istore (lv' := [(5, .int 0), (4, .int 1000000), (3, .int (nI a_)), (2, .int v), (0, .ref (gAd G 96)), (1, .int a0)]) hx hb dX10_measures_57 hl (by decide) rfl (fun ls hl => ?_)
              have L59 : ∀ (n__ : Nat) (t_ : Nat) (v4 : Int32) (H : Heap) (locs : List Loc) (ls : Array Slot), n__ + t_ = P → v4 = (rBest (mAway σ (σ 96 25) a0 D) (mThere σ (σ 96 25) a0 D) (rRow (mAway σ (σ 96 25) a0 D) (mThere σ (σ 96 25) a0 D) wk P (mi + n) (mMeas σ (σ 96 25) a0 D wk P j) a_) wk (mi + n) a_ t_) → gW G s (va_up σ 111 (rRow (mAway σ (σ 96 25) a0 D) (mThere σ (σ 96 25) a0 D) wk P (mi + n) (mMeas σ (σ 96 25) a0 D wk P j) a_)) τ H locs → lv_has ls 7 [(5, .int (nI t_)), (4, .int v4), (3, .int (nI a_)), (2, .int v), (0, .ref (gAd G 96)), (1, .int a0)] → W p l e (gRm 3 76) s m args below meth c H locs 0 0 (MQ below (gQv G (mMeasS σ (σ 96 25) a0 D wk P (240 - mi)) τ) args s 0 0 (gA G)) (F0 m 59 ls []) := by
                intro n__
                induction n__ with
                | zero =>
                  intro t_ v4 H locs ls hm hv4 hW hl
                  refine lv_iload hx hb dX10_measures_59 (lv_at hl 0 rfl) ?_
                  refine lv_aload_n hx hb dX10_measures_61 rfl (lv_at hl 4 rfl) ?_
                  refine gf_X10_13 C hW (by decide) rfl dX10_measures_62 ?_
                  refine lv_iconst (v := 0) hx hb dX10_measures_65 (by decide) ?_
                  refine g_ald (v := nI P) 0 C hW (by decide) rfl rfl (by decide) (by decide) hP dX10_measures_66 ?_
                  refine lv_icmp_ge (tgt := 103) hx hb dX10_measures_67 (by decide) (fun _ => ?_) (fun zz => absurd (show nI P ≤ nI t_ from nI_le (by omega) (by omega)) zz)
                  refine lv_aload_n hx hb dX10_measures_103 rfl (lv_at hl 4 rfl) ?_
                  refine gf_X10_53 C hW (by decide) rfl dX10_measures_104 ?_
                  refine lv_bipush (v := 6) hx hb dX10_measures_107 (by decide) ?_
                  refine lv_iload_n hx hb dX10_measures_109 rfl (lv_at hl 3 rfl) ?_
                  refine lv_imul hx hb dX10_measures_110 ?_
                  refine lv_iload_n hx hb dX10_measures_111 rfl (lv_at hl 2 rfl) ?_
                  refine lv_iadd hx hb dX10_measures_112 ?_
                  refine lv_iload hx hb dX10_measures_113 (lv_at hl 1 rfl) ?_
                  refine g_ast ((6 * (mi + n)) + a_) C hW (by decide) rfl (gadd (gmul (rfl : 6 = nI 6) hv2) (rfl : nI a_ = nI a_)) (show ((6 * (mi + n)) + a_) < 1446 by omega) (by decide) dX10_measures_115 (fun H locs hW => ?_)
                  refine lv_iinc (v := nI (a_ + 1)) (lv' := [(3, .int (nI (a_ + 1))), (5, .int (nI t_)), (4, .int v4), (2, .int v), (0, .ref (gAd G 96)), (1, .int a0)]) hx hb dX10_measures_116 hl (k := 2) rfl (nI_1 _) (by decide) rfl (fun ls hl => ?_)
                  refine lv_goto (tgt := 42) hx hb dX10_measures_119 (by decide) ?_
                  exact ih42 (a_ + 1) _ _ _ (by omega)  (by have ht_ : t_ = P := (by omega); subst ht_; rw [gu_up, hv4] at hW; exact hW) (lv_sub hl [0, 3, 4, 5] rfl)
                | succ n__ ih59 =>
                  intro t_ v4 H locs ls hm hv4 hW hl
                  refine lv_iload hx hb dX10_measures_59 (lv_at hl 0 rfl) ?_
                  refine lv_aload_n hx hb dX10_measures_61 rfl (lv_at hl 4 rfl) ?_
                  refine gf_X10_13 C hW (by decide) rfl dX10_measures_62 ?_
                  refine lv_iconst (v := 0) hx hb dX10_measures_65 (by decide) ?_
                  refine g_ald (v := nI P) 0 C hW (by decide) rfl rfl (by decide) (by decide) hP dX10_measures_66 ?_
                  refine lv_icmp_ge (tgt := 103) hx hb dX10_measures_67 (by decide) (fun zz => absurd zz (show ¬ nI P ≤ nI t_ from nI_ge (by omega) (by omega))) (fun _ => ?_)
                  refine lv_aload_n hx hb dX10_measures_70 rfl (lv_at hl 4 rfl) ?_
                  refine lv_iload_n hx hb dX10_measures_71 rfl (lv_at hl 5 rfl) ?_
                  refine lv_iload_n hx hb dX10_measures_72 rfl (lv_at hl 3 rfl) ?_
                  refine lv_iload_n hx hb dX10_measures_73 rfl (lv_at hl 2 rfl) ?_
                  refine lv_iload hx hb dX10_measures_74 (lv_at hl 0 rfl) ?_
                  refine g_callvI (r := mCost σ (σ 96 25) a0 (rRow (mAway σ (σ 96 25) a0 D) (mThere σ (σ 96 25) a0 D) wk P (mi + n) (mMeas σ (σ 96 25) a0 D wk P j) a_) D wk (mi + n) a_ t_) (σ' := va_up σ 111 (rRow (mAway σ (σ 96 25) a0 D) (mThere σ (σ 96 25) a0 D) wk P (mi + n) (mMeas σ (σ 96 25) a0 D wk P j) a_)) (rest := []) (As := [.int a0, .int v, .int (nI a_), .int (nI t_)]) C hW kv_X10_178 96 (by decide) (gL_10 rfl) rfl (m_costBy l G (va_up σ 111 (rRow (mAway σ (σ 96 25) a0 D) (mThere σ (σ 96 25) a0 D) wk P (mi + n) (mMeas σ (σ 96 25) a0 D wk P j) a_)) τ a0 v (nI a_) (nI t_) (mi + n) a_ t_ hv2 rfl rfl (by omega) (by omega) (by omega) D hD hD8 wk hwk hwk9) ⟨Nat.le_of_ble_eq_true rfl, Nat.le_of_ble_eq_true rfl⟩ ⟨Nat.le_refl _, Nat.le_refl _⟩ rfl hl.1 rfl (Nat.le_of_ble_eq_true rfl) dX10_measures_76 (fun H locs hW => ?_)
                  refine lv_istore (lv' := [(6, .int (mCost σ (σ 96 25) a0 (rRow (mAway σ (σ 96 25) a0 D) (mThere σ (σ 96 25) a0 D) wk P (mi + n) (mMeas σ (σ 96 25) a0 D wk P j) a_) D wk (mi + n) a_ t_)), (5, .int (nI t_)), (4, .int v4), (3, .int (nI a_)), (2, .int v), (0, .ref (gAd G 96)), (1, .int a0)]) hx hb dX10_measures_79 hl (by decide) rfl (fun ls hl => ?_)
                  refine lv_iload hx hb dX10_measures_81 (lv_at hl 0 rfl) ?_
                  refine lv_iload hx hb dX10_measures_83 (lv_at hl 2 rfl) ?_
                  refine lv_icmp_ge (tgt := 93) hx hb dX10_measures_85 (by decide) (fun c_1 => ?_) (fun c_1 => ?_)
                  · skip
                    refine lv_iload hx hb dX10_measures_93 (lv_at hl 2 rfl) ?_
                    refine lv_istore (lv' := [(4, .int v4), (6, .int (mCost σ (σ 96 25) a0 (rRow (mAway σ (σ 96 25) a0 D) (mThere σ (σ 96 25) a0 D) wk P (mi + n) (mMeas σ (σ 96 25) a0 D wk P j) a_) D wk (mi + n) a_ t_)), (5, .int (nI t_)), (3, .int (nI a_)), (2, .int v), (0, .ref (gAd G 96)), (1, .int a0)]) hx hb dX10_measures_95 hl (by decide) rfl (fun ls hl => ?_)
                    refine lv_iinc (v := nI (t_ + 1)) (lv' := [(5, .int (nI (t_ + 1))), (4, .int v4), (6, .int (mCost σ (σ 96 25) a0 (rRow (mAway σ (σ 96 25) a0 D) (mThere σ (σ 96 25) a0 D) wk P (mi + n) (mMeas σ (σ 96 25) a0 D wk P j) a_) D wk (mi + n) a_ t_)), (3, .int (nI a_)), (2, .int v), (0, .ref (gAd G 96)), (1, .int a0)]) hx hb dX10_measures_97 hl (k := 2) rfl (nI_1 _) (by decide) rfl (fun ls hl => ?_)
                    refine lv_goto (tgt := 59) hx hb dX10_measures_100 (by decide) ?_
                    exact ih59 (t_ + 1) v4 _ _ _ (by omega) (by rw [rBest, ← hv4, if_pos c_1]) hW (lv_sub hl [0, 1, 3, 4, 5, 6] rfl)
                  · skip
                    refine lv_iload hx hb dX10_measures_88 (lv_at hl 0 rfl) ?_
                    refine lv_goto (tgt := 95) hx hb dX10_measures_90 (by decide) ?_
                    refine lv_istore (lv' := [(4, .int (mCost σ (σ 96 25) a0 (rRow (mAway σ (σ 96 25) a0 D) (mThere σ (σ 96 25) a0 D) wk P (mi + n) (mMeas σ (σ 96 25) a0 D wk P j) a_) D wk (mi + n) a_ t_)), (6, .int (mCost σ (σ 96 25) a0 (rRow (mAway σ (σ 96 25) a0 D) (mThere σ (σ 96 25) a0 D) wk P (mi + n) (mMeas σ (σ 96 25) a0 D wk P j) a_) D wk (mi + n) a_ t_)), (5, .int (nI t_)), (3, .int (nI a_)), (2, .int v), (0, .ref (gAd G 96)), (1, .int a0)]) hx hb dX10_measures_95 hl (by decide) rfl (fun ls hl => ?_)
                    refine lv_iinc (v := nI (t_ + 1)) (lv' := [(5, .int (nI (t_ + 1))), (4, .int (mCost σ (σ 96 25) a0 (rRow (mAway σ (σ 96 25) a0 D) (mThere σ (σ 96 25) a0 D) wk P (mi + n) (mMeas σ (σ 96 25) a0 D wk P j) a_) D wk (mi + n) a_ t_)), (6, .int (mCost σ (σ 96 25) a0 (rRow (mAway σ (σ 96 25) a0 D) (mThere σ (σ 96 25) a0 D) wk P (mi + n) (mMeas σ (σ 96 25) a0 D wk P j) a_) D wk (mi + n) a_ t_)), (3, .int (nI a_)), (2, .int v), (0, .ref (gAd G 96)), (1, .int a0)]) hx hb dX10_measures_97 hl (k := 2) rfl (nI_1 _) (by decide) rfl (fun ls hl => ?_)
                    refine lv_goto (tgt := 59) hx hb dX10_measures_100 (by decide) ?_
                    exact ih59 (t_ + 1) (mCost σ (σ 96 25) a0 (rRow (mAway σ (σ 96 25) a0 D) (mThere σ (σ 96 25) a0 D) wk P (mi + n) (mMeas σ (σ 96 25) a0 D wk P j) a_) D wk (mi + n) a_ t_) _ _ _ (by omega) (by rw [rBest, ← hv4, if_neg c_1]) hW (lv_sub hl [0, 1, 3, 4, 5, 6] rfl)
              exact L59 P 0 1000000 _ _ _ (by omega) (by first | rfl | simp [bI, hv]) hW (lv_sub hl [0, 1, 2, 3, 4, 5] rfl)
          exact L42 P 0 _ _ _ (by omega)  hW (lv_sub hl [0, 1, 2, 3] rfl)
      exact L29 (240 - mi) 0 239 _ _ _ (by omega) (by rw [show mi + (240 - mi) = 240 by omega]; rfl) (by have hk : k = 6 := (by omega); subst hk; exact hW) (lv_sub hl [0, 1, 2] rfl)
    | succ n ih2 =>
      intro k H locs ls hm hW hl
      refine lv_iload_n hx hb dX10_measures_2 rfl (lv_at hl 0 rfl) ?_
      refine lv_bipush (v := 6) hx hb dX10_measures_3 (by decide) ?_
      refine lv_icmp_ge (tgt := 25) hx hb dX10_measures_5 (by decide) (fun zz => absurd zz (show ¬ nI 6 ≤ nI k from nI_ge (by omega) (by omega))) (fun _ => ?_)
      refine lv_aload_n hx hb dX10_measures_8 rfl (lv_at hl 1 rfl) ?_
      refine gf_X10_53 C hW (by decide) rfl dX10_measures_9 ?_
      refine lv_sipush (v := 1440) hx hb dX10_measures_12 (by decide) ?_
      refine lv_iload_n hx hb dX10_measures_15 rfl (lv_at hl 0 rfl) ?_
      refine lv_iadd hx hb dX10_measures_16 ?_
      refine lv_iconst (v := 0) hx hb dX10_measures_17 (by decide) ?_
      refine g_ast (1440 + k) C hW (by decide) rfl (gadd (rfl : 1440 = nI 1440) (rfl : nI k = nI k)) (show (1440 + k) < 1446 by omega) (by decide) dX10_measures_18 (fun H locs hW => ?_)
      refine lv_iinc (v := nI (k + 1)) (lv' := [(2, .int (nI (k + 1))), (0, .ref (gAd G 96)), (1, .int a0)]) hx hb dX10_measures_19 hl (k := 0) rfl (nI_1 _) (by decide) rfl (fun ls hl => ?_)
      refine lv_goto (tgt := 2) hx hb dX10_measures_22 (by decide) ?_
      exact ih2 (k + 1) _ _ _ (by omega)  (by rw [gu_up] at hW; exact hW) (lv_sub hl [0, 1, 2] rfl)
  exact L2 6 0 _ _ _ (by omega)  (by rw [show rZ (σ 111) 0 = σ 111 from rfl, gup_self]; exact hW) (lv_sub hl [0, 1, 2] rfl)
set_option maxHeartbeats 4000000 in
set_option maxRecDepth 100000 in
theorem m_least (l : Launch) (G : gG) (σ : gSt) (τ : Nat → Int64) (a0 a1 : Int32) (D : Nat) (hD : σ 98 2 = nI D) (hD8 : D ≤ 8) (N : Nat) (hN : σ 98 1 = nI N) (hN5 : N ≤ 5) (wk : Nat) (hwk : σ 98 3 = nI wk) (hwk9 : wk ≤ 9) (P : Nat) (hP : σ 98 0 = nI P) (hP6 : P ≤ 6) (mi : Nat) (hmi : σ 104 15 = nI mi) (hmi2 : mi ≤ 240) (hpl : mIn a0 0 (σ 98 1 - 1) = true → σ 104 a0.toNatClampNeg = nI (σ 104 a0.toNatClampNeg).toNatClampNeg ∧ (σ 104 a0.toNatClampNeg).toNatClampNeg < 6 ∧ σ 104 (5 + a0.toNatClampNeg) = nI (σ 104 (5 + a0.toNatClampNeg)).toNatClampNeg ∧ (σ 104 (5 + a0.toNatClampNeg)).toNatClampNeg ≤ 1000) (hex : mIn a0 0 (σ 98 1 - 1) = true → mi < 240 → ∃ t2, t2 < P ∧ (fun t => mCost σ (σ 104 16) a0 (mMeas σ (σ 104 16) a0 D wk P (240 - mi)) D wk mi (σ 104 a0.toNatClampNeg).toNatClampNeg t) t2 = ((mMeas σ (σ 104 16) a0 D wk P (240 - mi)) (6 * mi + (σ 104 a0.toNatClampNeg).toNatClampNeg))) : gI l yX10_least cX10_least 5 (some .int) 4 102 G [.ref (gAd G 96), .int a0, .int a1] σ τ (if (mIn a0 0 (σ 98 1 - 1) = true ∧ mIn a1 0 1 = true) then (if mi = 240 then (if a1 = 0 then 0 else nI (σ 104 a0.toNatClampNeg).toNatClampNeg) else if (σ 104 (5 + a0.toNatClampNeg)).toNatClampNeg ≤ 0 then (if a1 = 0 then ((mMeas σ (σ 104 16) a0 D wk P (240 - mi)) (6 * mi + (σ 104 a0.toNatClampNeg).toNatClampNeg)) else rTo (fun t => mCost σ (σ 104 16) a0 (mMeas σ (σ 104 16) a0 D wk P (240 - mi)) D wk mi (σ 104 a0.toNatClampNeg).toNatClampNeg t) ((mMeas σ (σ 104 16) a0 D wk P (240 - mi)) (6 * mi + (σ 104 a0.toNatClampNeg).toNatClampNeg)) P 0) else (if a1 = 1 then nI (σ 104 a0.toNatClampNeg).toNatClampNeg else mOnW σ (σ 104 16) a0 (mMeas σ (σ 104 16) a0 D wk P (240 - mi)) D mi (σ 104 (5 + a0.toNatClampNeg)).toNatClampNeg (σ 104 a0.toNatClampNeg).toNatClampNeg)) else -1) (if (mIn a0 0 (σ 98 1 - 1) = true ∧ mIn a1 0 1 = true) then (if mi = 240 then σ else va_up (mNowS σ) 111 (mMeas σ (σ 104 16) a0 D wk P (240 - mi))) else σ) τ := by
  refine gMet_of (by decide) (Nat.le_of_ble_eq_true rfl) ?_
  intro p e s m args below meth c C hr hlk ls hl hW
  have hx := C.1
  have hb := C.2.1
  have hl : lv_has ls 5 [(0, .ref (gAd G 96)), (1, .int a0), (2, .int a1)] := hl
  refine lv_aload_n hx hb dX10_least_0 rfl (lv_at hl 0 rfl) ?_
  refine lv_iconst (v := 0) hx hb dX10_least_1 (by decide) ?_
  refine gp_X10_62 C hW (by decide) rfl dX10_least_2 (fun H locs hW => ?_)
  refine lv_aload_n hx hb dX10_least_5 rfl (lv_at hl 0 rfl) ?_
  refine lv_iload_n hx hb dX10_least_6 rfl (lv_at hl 1 rfl) ?_
  refine g_callvI (r := bI (mIn a0 0 (σ 98 1 - 1))) (σ' := σ) (rest := []) (As := [.int a0]) C hW kv_X10_136 96 (by decide) (gL_10 rfl) rfl (m_isPerson l G σ τ a0) ⟨Nat.le_of_ble_eq_true rfl, Nat.le_of_ble_eq_true rfl⟩ ⟨Nat.le_refl _, Nat.le_refl _⟩ rfl hl.1 rfl (Nat.le_of_ble_eq_true rfl) dX10_least_7 (fun H locs hW => ?_)
  refine lv_if_eq (tgt := 22) hx hb dX10_least_10 (by decide) (fun c_1 => ?_) (fun c_1 => ?_)
  · skip
    replace c_1 : (mIn a0 0 (σ 98 1 - 1)) = false := bI_eq0.mp c_1
    refine lv_iconst (v := (-1)) hx hb dX10_least_22 (by decide) ?_
    exact g_iret C hr hlk hW dX10_least_23 (by simp [c_1]) (by simp [c_1]) (rfl)
  · skip
    replace c_1 : (mIn a0 0 (σ 98 1 - 1)) = true := bI_ne0.mp c_1
    refine lv_iload_n hx hb dX10_least_13 rfl (lv_at hl 2 rfl) ?_
    refine lv_iconst (v := 0) hx hb dX10_least_14 (by decide) ?_
    refine lv_iconst (v := 1) hx hb dX10_least_15 (by decide) ?_
    refine g_callsI (r := bI (mIn a1 0 1)) (σ' := σ) (rest := []) (As := [.int a1, .int 0, .int 1]) C hW ks_X10_66 (m_in l G σ τ a1 0 1) ⟨Nat.le_of_ble_eq_true rfl, Nat.le_of_ble_eq_true rfl⟩ ⟨Nat.le_refl _, Nat.le_refl _⟩ rfl hl.1 rfl (Nat.le_of_ble_eq_true rfl) dX10_least_16 (fun H locs hW => ?_)
    refine lv_if_ne (tgt := 24) hx hb dX10_least_19 (by decide) (fun c_2 => ?_) (fun c_2 => ?_)
    · skip
      replace c_2 : (mIn a1 0 1) = true := bI_ne0.mp c_2
      have hp0 := c_1
      rw [hN] at hp0
      have hp := mIn_nat (N := N) hp0 (by omega)
      obtain ⟨hat, ha6, hgo, hg⟩ := hpl c_1
      refine lv_aload_n hx hb dX10_least_24 rfl (lv_at hl 0 rfl) ?_
      refine gf_X10_31 C hW (by decide) rfl dX10_least_25 ?_
      refine lv_iconst (v := 0) hx hb dX10_least_28 (by decide) ?_
      refine lv_iload_n hx hb dX10_least_29 rfl (lv_at hl 1 rfl) ?_
      refine lv_iadd hx hb dX10_least_30 ?_
      refine g_ald (v := nI ((σ 104 a0.toNatClampNeg).toNatClampNeg)) a0.toNatClampNeg C hW (by decide) rfl (gz hp.1) (show a0.toNatClampNeg < 25 by omega) (by decide) hat dX10_least_31 ?_
      refine lv_istore_n (lv' := [(3, .int (nI ((σ 104 a0.toNatClampNeg).toNatClampNeg))), (0, .ref (gAd G 96)), (1, .int a0), (2, .int a1)]) hx hb dX10_least_32 rfl hl (by decide) rfl (fun ls hl => ?_)
      refine lv_aload_n hx hb dX10_least_33 rfl (lv_at hl 1 rfl) ?_
      refine gf_X10_31 C hW (by decide) rfl dX10_least_34 ?_
      refine lv_bipush (v := 15) hx hb dX10_least_37 (by decide) ?_
      refine g_ald (v := nI mi) 15 C hW (by decide) rfl rfl (by decide) (by decide) hmi dX10_least_39 ?_
      refine lv_sipush (v := 240) hx hb dX10_least_40 (by decide) ?_
      refine lv_icmp_ne (tgt := 56) hx hb dX10_least_43 (by decide) (fun c_3 => ?_) (fun c_3 => ?_)
      · skip
        replace c_3 : ¬ mi = 240 := mt (nI_eq (a := mi) (b := 240) (by omega) (by omega)).mpr c_3
        refine lv_aload_n hx hb dX10_least_56 rfl (lv_at hl 1 rfl) ?_
        refine g_callvV (σ' := gu σ 96 25 (σ 104 16)) (rest := []) (As := []) C hW kv_X10_139 96 (by decide) (gL_10 rfl) rfl (m_asNow l G σ τ) ⟨Nat.le_of_ble_eq_true rfl, Nat.le_of_ble_eq_true rfl⟩ ⟨Nat.le_refl _, Nat.le_refl _⟩ rfl hl.1 rfl (Nat.le_of_ble_eq_true rfl) dX10_least_57 (fun H locs hW => ?_)
        refine lv_aload_n hx hb dX10_least_60 rfl (lv_at hl 1 rfl) ?_
        refine lv_iload_n hx hb dX10_least_61 rfl (lv_at hl 2 rfl) ?_
        refine g_callvV (σ' := va_up (gu σ 96 25 (σ 104 16)) 111 (mMeas σ (σ 104 16) a0 D wk P (240 - mi))) (rest := []) (As := [.int a0]) C hW kv_X10_181 96 (by decide) (gL_10 rfl) rfl (m_measures l G (gu σ 96 25 (σ 104 16)) τ a0 D hD hD8 wk hwk hwk9 P hP hP6 mi hmi hmi2) ⟨Nat.le_of_ble_eq_true rfl, Nat.le_of_ble_eq_true rfl⟩ ⟨Nat.le_refl _, Nat.le_refl _⟩ rfl hl.1 rfl (Nat.le_of_ble_eq_true rfl) dX10_least_62 (fun H locs hW => ?_)
        refine lv_aload_n hx hb dX10_least_65 rfl (lv_at hl 1 rfl) ?_
        refine gf_X10_31 C hW (by decide) rfl dX10_least_66 ?_
        refine lv_iconst (v := 5) hx hb dX10_least_69 (by decide) ?_
        refine lv_iload_n hx hb dX10_least_70 rfl (lv_at hl 2 rfl) ?_
        refine lv_iadd hx hb dX10_least_71 ?_
        refine g_ald (v := nI ((σ 104 (5 + a0.toNatClampNeg)).toNatClampNeg)) (5 + a0.toNatClampNeg) C hW (by decide) rfl (gadd (rfl : 5 = nI 5) hp.1) (show (5 + a0.toNatClampNeg) < 25 by omega) (by decide) hgo dX10_least_72 ?_
        refine lv_if_le (tgt := 107) hx hb dX10_least_73 (by decide) (fun c_4 => ?_) (fun c_4 => ?_)
        · skip
          replace c_4 : ((σ 104 (5 + a0.toNatClampNeg)).toNatClampNeg) ≤ 0 := (nI_leI (a := ((σ 104 (5 + a0.toNatClampNeg)).toNatClampNeg)) (b := 0) (by omega) (by omega)).mp c_4
          refine lv_iload_n hx hb dX10_least_107 rfl (lv_at hl 3 rfl) ?_
          refine lv_if_ne (tgt := 129) hx hb dX10_least_108 (by decide) (fun c_5 => ?_) (fun c_5 => ?_)
          · skip
            refine lv_iconst (v := 0) hx hb dX10_least_129 (by decide) ?_
            refine lv_istore (lv' := [(4, .int 0), (3, .int (nI ((σ 104 a0.toNatClampNeg).toNatClampNeg))), (0, .ref (gAd G 96)), (1, .int a0), (2, .int a1)]) hx hb dX10_least_130 hl (by decide) rfl (fun ls hl => ?_)
            have L132 : ∀ (n : Nat) (t_ : Nat) (H : Heap) (locs : List Loc) (ls : Array Slot), n + t_ = P → (∃ t2, t_ ≤ t2 ∧ t2 < P ∧ (fun t => mCost σ (σ 104 16) a0 (mMeas σ (σ 104 16) a0 D wk P (240 - mi)) D wk mi (σ 104 a0.toNatClampNeg).toNatClampNeg t) t2 = ((mMeas σ (σ 104 16) a0 D wk P (240 - mi)) (6 * mi + (σ 104 a0.toNatClampNeg).toNatClampNeg))) → (rTo (fun t => mCost σ (σ 104 16) a0 (mMeas σ (σ 104 16) a0 D wk P (240 - mi)) D wk mi (σ 104 a0.toNatClampNeg).toNatClampNeg t) ((mMeas σ (σ 104 16) a0 D wk P (240 - mi)) (6 * mi + (σ 104 a0.toNatClampNeg).toNatClampNeg)) n t_ = rTo (fun t => mCost σ (σ 104 16) a0 (mMeas σ (σ 104 16) a0 D wk P (240 - mi)) D wk mi (σ 104 a0.toNatClampNeg).toNatClampNeg t) ((mMeas σ (σ 104 16) a0 D wk P (240 - mi)) (6 * mi + (σ 104 a0.toNatClampNeg).toNatClampNeg)) P 0) → gW G s (va_up (gu σ 96 25 (σ 104 16)) 111 (mMeas σ (σ 104 16) a0 D wk P (240 - mi))) τ H locs → lv_has ls 5 [(4, .int (nI t_)), (3, .int (nI ((σ 104 a0.toNatClampNeg).toNatClampNeg))), (0, .ref (gAd G 96)), (1, .int a0), (2, .int a1)] → W p l e (gRm 4 102) s m args below meth c H locs 0 0 (MQ below (gQi G (if (mIn a0 0 (σ 98 1 - 1) = true ∧ mIn a1 0 1 = true) then (if mi = 240 then (if a1 = 0 then 0 else nI (σ 104 a0.toNatClampNeg).toNatClampNeg) else if (σ 104 (5 + a0.toNatClampNeg)).toNatClampNeg ≤ 0 then (if a1 = 0 then ((mMeas σ (σ 104 16) a0 D wk P (240 - mi)) (6 * mi + (σ 104 a0.toNatClampNeg).toNatClampNeg)) else rTo (fun t => mCost σ (σ 104 16) a0 (mMeas σ (σ 104 16) a0 D wk P (240 - mi)) D wk mi (σ 104 a0.toNatClampNeg).toNatClampNeg t) ((mMeas σ (σ 104 16) a0 D wk P (240 - mi)) (6 * mi + (σ 104 a0.toNatClampNeg).toNatClampNeg)) P 0) else (if a1 = 1 then nI (σ 104 a0.toNatClampNeg).toNatClampNeg else mOnW σ (σ 104 16) a0 (mMeas σ (σ 104 16) a0 D wk P (240 - mi)) D mi (σ 104 (5 + a0.toNatClampNeg)).toNatClampNeg (σ 104 a0.toNatClampNeg).toNatClampNeg)) else -1) (if (mIn a0 0 (σ 98 1 - 1) = true ∧ mIn a1 0 1 = true) then (if mi = 240 then σ else va_up (mNowS σ) 111 (mMeas σ (σ 104 16) a0 D wk P (240 - mi))) else σ) τ) args s 0 0 (gA G)) (F0 m 132 ls []) := by
              intro n
              induction n with
              | zero =>
                intro t_ H locs ls hm he hq hW hl
                obtain ⟨t2, q1, q2, q3⟩ := he
                exact absurd q1 (by omega)
              | succ n ih132 =>
                intro t_ H locs ls hm he hq hW hl
                refine lv_aload_n hx hb dX10_least_132 rfl (lv_at hl 2 rfl) ?_
                refine lv_iload_n hx hb dX10_least_133 rfl (lv_at hl 3 rfl) ?_
                refine lv_aload_n hx hb dX10_least_134 rfl (lv_at hl 2 rfl) ?_
                refine gf_X10_31 C hW (by decide) rfl dX10_least_135 ?_
                refine lv_bipush (v := 15) hx hb dX10_least_138 (by decide) ?_
                refine g_ald (v := nI mi) 15 C hW (by decide) rfl rfl (by decide) (by decide) hmi dX10_least_140 ?_
                refine lv_iload_n hx hb dX10_least_141 rfl (lv_at hl 1 rfl) ?_
                refine lv_iload hx hb dX10_least_142 (lv_at hl 0 rfl) ?_
                refine g_callvI (r := mCost σ (σ 104 16) a0 (mMeas σ (σ 104 16) a0 D wk P (240 - mi)) D wk mi (σ 104 a0.toNatClampNeg).toNatClampNeg t_) (σ' := va_up (gu σ 96 25 (σ 104 16)) 111 (mMeas σ (σ 104 16) a0 D wk P (240 - mi))) (rest := []) (As := [.int a0, .int (nI mi), .int (nI ((σ 104 a0.toNatClampNeg).toNatClampNeg)), .int (nI t_)]) C hW kv_X10_178 96 (by decide) (gL_10 rfl) rfl (m_costBy l G (va_up (gu σ 96 25 (σ 104 16)) 111 (mMeas σ (σ 104 16) a0 D wk P (240 - mi))) τ a0 (nI mi) (nI ((σ 104 a0.toNatClampNeg).toNatClampNeg)) (nI t_) mi (σ 104 a0.toNatClampNeg).toNatClampNeg t_ rfl rfl rfl (by omega) ha6 (by omega) D hD hD8 wk hwk hwk9) ⟨Nat.le_of_ble_eq_true rfl, Nat.le_of_ble_eq_true rfl⟩ ⟨Nat.le_refl _, Nat.le_refl _⟩ rfl hl.1 rfl (Nat.le_of_ble_eq_true rfl) dX10_least_144 (fun H locs hW => ?_)
                refine lv_aload_n hx hb dX10_least_147 rfl (lv_at hl 2 rfl) ?_
                refine gf_X10_53 C hW (by decide) rfl dX10_least_148 ?_
                refine lv_bipush (v := 6) hx hb dX10_least_151 (by decide) ?_
                refine lv_aload_n hx hb dX10_least_153 rfl (lv_at hl 2 rfl) ?_
                refine gf_X10_31 C hW (by decide) rfl dX10_least_154 ?_
                refine lv_bipush (v := 15) hx hb dX10_least_157 (by decide) ?_
                refine g_ald (v := nI mi) 15 C hW (by decide) rfl rfl (by decide) (by decide) hmi dX10_least_159 ?_
                refine lv_imul hx hb dX10_least_160 ?_
                refine lv_iload_n hx hb dX10_least_161 rfl (lv_at hl 1 rfl) ?_
                refine lv_iadd hx hb dX10_least_162 ?_
                refine g_ald (v := (mMeas σ (σ 104 16) a0 D wk P (240 - mi)) ((6 * mi) + ((σ 104 a0.toNatClampNeg).toNatClampNeg))) ((6 * mi) + ((σ 104 a0.toNatClampNeg).toNatClampNeg)) C hW (by decide) rfl (gadd (gmul (rfl : 6 = nI 6) (rfl : nI mi = nI mi)) (rfl : nI ((σ 104 a0.toNatClampNeg).toNatClampNeg) = nI ((σ 104 a0.toNatClampNeg).toNatClampNeg))) (show ((6 * mi) + ((σ 104 a0.toNatClampNeg).toNatClampNeg)) < 1446 by omega) (by decide) rfl dX10_least_163 ?_
                refine lv_icmp_eq (tgt := 173) hx hb dX10_least_164 (by decide) (fun c_6 => ?_) (fun c_6 => ?_)
                · skip
                  refine lv_iload hx hb dX10_least_173 (lv_at hl 0 rfl) ?_
                  exact g_iret C hr hlk hW dX10_least_175 (by rw [if_pos ⟨c_1, c_2⟩, if_neg c_3, if_pos c_4, if_neg c_5, ← hq, rTo, if_pos c_6]) (by rw [if_pos ⟨c_1, c_2⟩, if_neg c_3]) (rfl)
                · skip
                  refine lv_iinc (v := nI (t_ + 1)) (lv' := [(4, .int (nI (t_ + 1))), (3, .int (nI ((σ 104 a0.toNatClampNeg).toNatClampNeg))), (0, .ref (gAd G 96)), (1, .int a0), (2, .int a1)]) hx hb dX10_least_167 hl (k := 0) rfl (nI_1 _) (by decide) rfl (fun ls hl => ?_)
                  refine lv_goto (tgt := 132) hx hb dX10_least_170 (by decide) ?_
                  exact ih132 (t_ + 1) _ _ _ (by omega) (by obtain ⟨t2, q1, q2, q3⟩ := he; refine ⟨t2, ?_, q2, q3⟩; rcases Nat.lt_or_ge t_ t2 with z | z; exact z; exact absurd (by rw [show t_ = t2 by omega]; exact q3) c_6) (by rw [← hq, rTo, if_neg c_6]) hW (lv_sub hl [0, 1, 2, 3, 4] rfl)
            exact L132 P 0 _ _ _ (by omega) (by obtain ⟨t2, q1, q2⟩ := hex c_1 (by omega); exact ⟨t2, Nat.zero_le _, q1, q2⟩) rfl hW (lv_sub hl [0, 1, 2, 3, 4] rfl)
          · skip
            refine lv_aload_n hx hb dX10_least_111 rfl (lv_at hl 1 rfl) ?_
            refine gf_X10_53 C hW (by decide) rfl dX10_least_112 ?_
            refine lv_bipush (v := 6) hx hb dX10_least_115 (by decide) ?_
            refine lv_aload_n hx hb dX10_least_117 rfl (lv_at hl 1 rfl) ?_
            refine gf_X10_31 C hW (by decide) rfl dX10_least_118 ?_
            refine lv_bipush (v := 15) hx hb dX10_least_121 (by decide) ?_
            refine g_ald (v := nI mi) 15 C hW (by decide) rfl rfl (by decide) (by decide) hmi dX10_least_123 ?_
            refine lv_imul hx hb dX10_least_124 ?_
            refine lv_iload_n hx hb dX10_least_125 rfl (lv_at hl 0 rfl) ?_
            refine lv_iadd hx hb dX10_least_126 ?_
            refine g_ald (v := (mMeas σ (σ 104 16) a0 D wk P (240 - mi)) ((6 * mi) + ((σ 104 a0.toNatClampNeg).toNatClampNeg))) ((6 * mi) + ((σ 104 a0.toNatClampNeg).toNatClampNeg)) C hW (by decide) rfl (gadd (gmul (rfl : 6 = nI 6) (rfl : nI mi = nI mi)) (rfl : nI ((σ 104 a0.toNatClampNeg).toNatClampNeg) = nI ((σ 104 a0.toNatClampNeg).toNatClampNeg))) (show ((6 * mi) + ((σ 104 a0.toNatClampNeg).toNatClampNeg)) < 1446 by omega) (by decide) rfl dX10_least_127 ?_
            exact g_iret C hr hlk hW dX10_least_128 (by rw [if_pos ⟨c_1, c_2⟩, if_neg c_3, if_pos c_4, if_pos c_5]) (by rw [if_pos ⟨c_1, c_2⟩, if_neg c_3]) (rfl)
        · skip
          replace c_4 : 0 < ((σ 104 (5 + a0.toNatClampNeg)).toNatClampNeg) := Nat.not_le.mp (mt (nI_leI (a := ((σ 104 (5 + a0.toNatClampNeg)).toNatClampNeg)) (b := 0) (by omega) (by omega)).mpr c_4)
          refine lv_iload_n hx hb dX10_least_76 rfl (lv_at hl 3 rfl) ?_
          refine lv_iconst (v := 1) hx hb dX10_least_77 (by decide) ?_
          refine lv_icmp_ne (tgt := 85) hx hb dX10_least_78 (by decide) (fun c_7 => ?_) (fun c_7 => ?_)
          · skip
            refine lv_aload_n hx hb dX10_least_85 rfl (lv_at hl 1 rfl) ?_
            refine lv_iload_n hx hb dX10_least_86 rfl (lv_at hl 2 rfl) ?_
            refine lv_aload_n hx hb dX10_least_87 rfl (lv_at hl 1 rfl) ?_
            refine gf_X10_31 C hW (by decide) rfl dX10_least_88 ?_
            refine lv_bipush (v := 15) hx hb dX10_least_91 (by decide) ?_
            refine g_ald (v := nI mi) 15 C hW (by decide) rfl rfl (by decide) (by decide) hmi dX10_least_93 ?_
            refine lv_aload_n hx hb dX10_least_94 rfl (lv_at hl 1 rfl) ?_
            refine gf_X10_31 C hW (by decide) rfl dX10_least_95 ?_
            refine lv_iconst (v := 5) hx hb dX10_least_98 (by decide) ?_
            refine lv_iload_n hx hb dX10_least_99 rfl (lv_at hl 2 rfl) ?_
            refine lv_iadd hx hb dX10_least_100 ?_
            refine g_ald (v := nI ((σ 104 (5 + a0.toNatClampNeg)).toNatClampNeg)) (5 + a0.toNatClampNeg) C hW (by decide) rfl (gadd (rfl : 5 = nI 5) hp.1) (show (5 + a0.toNatClampNeg) < 25 by omega) (by decide) hgo dX10_least_101 ?_
            refine lv_iload_n hx hb dX10_least_102 rfl (lv_at hl 0 rfl) ?_
            refine g_callvI (r := mOnW σ (σ 104 16) a0 (mMeas σ (σ 104 16) a0 D wk P (240 - mi)) D mi (σ 104 (5 + a0.toNatClampNeg)).toNatClampNeg (σ 104 a0.toNatClampNeg).toNatClampNeg) (σ' := va_up (gu σ 96 25 (σ 104 16)) 111 (mMeas σ (σ 104 16) a0 D wk P (240 - mi))) (rest := []) (As := [.int a0, .int (nI mi), .int (nI ((σ 104 (5 + a0.toNatClampNeg)).toNatClampNeg)), .int (nI ((σ 104 a0.toNatClampNeg).toNatClampNeg))]) C hW kv_X10_173 96 (by decide) (gL_10 rfl) rfl (m_onWay l G (va_up (gu σ 96 25 (σ 104 16)) 111 (mMeas σ (σ 104 16) a0 D wk P (240 - mi))) τ a0 (nI mi) (nI ((σ 104 (5 + a0.toNatClampNeg)).toNatClampNeg)) (nI ((σ 104 a0.toNatClampNeg).toNatClampNeg)) mi (σ 104 (5 + a0.toNatClampNeg)).toNatClampNeg (σ 104 a0.toNatClampNeg).toNatClampNeg rfl rfl rfl (by omega) hg ha6 D hD hD8) ⟨Nat.le_of_ble_eq_true rfl, Nat.le_of_ble_eq_true rfl⟩ ⟨Nat.le_refl _, Nat.le_refl _⟩ rfl hl.1 rfl (Nat.le_of_ble_eq_true rfl) dX10_least_103 (fun H locs hW => ?_)
            exact g_iret C hr hlk hW dX10_least_106 (by rw [if_pos ⟨c_1, c_2⟩, if_neg c_3, if_neg (by omega), if_neg c_7]) (by rw [if_pos ⟨c_1, c_2⟩, if_neg c_3]) (rfl)
          · skip
            refine lv_iload_n hx hb dX10_least_81 rfl (lv_at hl 0 rfl) ?_
            refine lv_goto (tgt := 106) hx hb dX10_least_82 (by decide) ?_
            exact g_iret C hr hlk hW dX10_least_106 (by rw [if_pos ⟨c_1, c_2⟩, if_neg c_3, if_neg (by omega), if_pos c_7]) (by rw [if_pos ⟨c_1, c_2⟩, if_neg c_3]) (rfl)
      · skip
        replace c_3 : mi = 240 := (nI_eq (a := mi) (b := 240) (by omega) (by omega)).mp c_3
        refine lv_iload_n hx hb dX10_least_46 rfl (lv_at hl 3 rfl) ?_
        refine lv_if_ne (tgt := 54) hx hb dX10_least_47 (by decide) (fun c_8 => ?_) (fun c_8 => ?_)
        · skip
          refine lv_iload_n hx hb dX10_least_54 rfl (lv_at hl 0 rfl) ?_
          exact g_iret C hr hlk hW dX10_least_55 (by rw [if_pos ⟨c_1, c_2⟩, if_pos c_3, if_neg c_8]) (by rw [if_pos ⟨c_1, c_2⟩, if_pos c_3]) (rfl)
        · skip
          refine lv_iconst (v := 0) hx hb dX10_least_50 (by decide) ?_
          refine lv_goto (tgt := 55) hx hb dX10_least_51 (by decide) ?_
          exact g_iret C hr hlk hW dX10_least_55 (by rw [if_pos ⟨c_1, c_2⟩, if_pos c_3, if_pos c_8]) (by rw [if_pos ⟨c_1, c_2⟩, if_pos c_3]) (rfl)
    · skip
      replace c_2 : (mIn a1 0 1) = false := bI_eq0.mp c_2
      refine lv_iconst (v := (-1)) hx hb dX10_least_22 (by decide) ?_
      exact g_iret C hr hlk hW dX10_least_23 (by simp [c_1, c_2]) (by simp [c_1, c_2]) (rfl)
