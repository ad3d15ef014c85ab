/-! ===== what the reference's methods answer, of rows of the state ===== -/
def mIn (v a b : Int32) : Bool := !decide (v < a) && !decide (b < v)
def mOnes (x : Int32) : Nat → Int32
  | 0 => 0
  | k + 1 => mOnes x k + ((x >>> (nI k &&& 31)) &&& 1)
def rLet (tx : Nat → Int32) (t k : Nat) : Int32 := if k < t then tx k else -1
def mIsL (c : Int32) : Bool := decide (c = 119) || decide (c = 112) || decide (c = 100) || decide (c = 103) || decide (c = 102)
/-- duty d rings for p in minute mi, if he is at 'at' -/
def rOn (fm lt : Nat → Int32) (fr mi : Int32) (d : Nat) : Bool := !decide (mi < fm d + fr) && !decide (fm d + lt d ≤ mi)
def rDue (fm lt wh ow : Nat → Int32) (fr wo p mi at_ : Int32) (d : Nat) : Bool :=
  decide (ow (17 + d) = p) && (decide ((wo >>> (nI d &&& 31)) &&& 1 = 0) && (rOn fm lt fr mi d && !decide (wh d = at_)))
def rRung (fm lt wh ow : Nat → Int32) (fr wo p mi at_ : Int32) : Nat → Bool
  | 0 => false
  | d + 1 => rRung fm lt wh ow fr wo p mi at_ d || rDue fm lt wh ow fr wo p mi at_ d
abbrev mRung (σ : gSt) (wo p mi at_ : Int32) (D : Nat) : Bool := rRung (σ 102) (σ 103) (σ 101) (σ 104) (σ 98 4) wo p mi at_ D
def rPl (sr : Nat → Int32) (p : Nat) (mins : Int32) : Int32 := if sr (5 + p) ≤ mins then sr p else -9
def rRings (fm lt wh sr : Nat → Int32) (fr wo mi : Int32) (D : Nat) : Nat → Int32
  | 0 => 0
  | p + 1 => rRings fm lt wh sr fr wo mi D p ||| (if rRung fm lt wh sr fr wo (nI p) mi (rPl sr p (mi - sr 15)) D = true then 1 <<< (nI p &&& 31) else 0)
abbrev mRings (σ : gSt) (wo mi : Int32) (D N : Nat) : Int32 := rRings (σ 102) (σ 103) (σ 101) (σ 104) (σ 98 4) wo mi D N
theorem mIn_nat {x : Int32} {N : Nat} (h : mIn x 0 (nI N - 1) = true) (hN : N < 2 ^ 30) : x = nI x.toNatClampNeg ∧ x.toNatClampNeg < N := by
  simp only [mIn, Bool.and_eq_true, Bool.not_eq_true', decide_eq_false_iff_not] at h
  obtain ⟨h1, h2⟩ := h
  obtain ⟨j, hj, rfl⟩ := nI_of h1
  rw [nI_clamp hj]
  refine ⟨rfl, ?_⟩
  rcases Nat.lt_or_ge j N with q | q
  · exact q
  · refine absurd ?_ h2
    rw [Int32.lt_iff_toInt_lt, nI_toInt hj, show (1 : Int32) = nI 1 from rfl, pk_sub_toInt hN (by decide)]
    omega
set_option maxHeartbeats 4000000 in
set_option maxRecDepth 100000 in
theorem m_in (l : Launch) (G : gG) (σ : gSt) (τ : Nat → Int64) (a0 a1 a2 : Int32) : gI l yX10_in cX10_in 3 (some .boolean) 0 0 G [.int a0, .int a1, .int a2] σ τ (bI (mIn a0 a1 a2)) σ τ := by
  refine gMet_of (by decide) (Nat.le_of_ble_eq_true rfl) ?_
  intro p e s m args below meth c C hr hlk ls hl hW
  have hx := C.1
  have hb := C.2.1
  have hl : lv_has ls 3 [(0, .int a0), (1, .int a1), (2, .int a2)] := hl
  refine lv_iload_n hx hb dX10_in_0 rfl (lv_at hl 0 rfl) ?_
  refine lv_iload_n hx hb dX10_in_1 rfl (lv_at hl 1 rfl) ?_
  refine lv_icmp_lt (tgt := 14) hx hb dX10_in_2 (by decide) (fun c_1 => ?_) (fun c_1 => ?_)
  · skip
    refine lv_iconst (v := 0) hx hb dX10_in_14 (by decide) ?_
    exact g_zret C hr hlk hW dX10_in_15 (rfl) (by simp [bI, mIn, c_1]) (rfl) (rfl)
  · skip
    refine lv_iload_n hx hb dX10_in_5 rfl (lv_at hl 0 rfl) ?_
    refine lv_iload_n hx hb dX10_in_6 rfl (lv_at hl 2 rfl) ?_
    refine lv_icmp_gt (tgt := 14) hx hb dX10_in_7 (by decide) (fun c_2 => ?_) (fun c_2 => ?_)
    · skip
      refine lv_iconst (v := 0) hx hb dX10_in_14 (by decide) ?_
      exact g_zret C hr hlk hW dX10_in_15 (rfl) (by simp [bI, mIn, c_1, c_2]) (rfl) (rfl)
    · skip
      refine lv_iconst (v := 1) hx hb dX10_in_10 (by decide) ?_
      refine lv_goto (tgt := 15) hx hb dX10_in_11 (by decide) ?_
      exact g_zret C hr hlk hW dX10_in_15 (rfl) (by simp [bI, mIn, c_1, c_2]) (rfl) (rfl)
set_option maxHeartbeats 4000000 in
set_option maxRecDepth 100000 in
theorem m_ones (l : Launch) (G : gG) (σ : gSt) (τ : Nat → Int64) (a0 : Int32) : gI l yX10_ones cX10_ones 3 (some .int) 0 0 G [.int a0] σ τ (mOnes a0 8) σ τ := by
  refine gMet_of (by decide) (Nat.le_of_ble_eq_true rfl) ?_
  intro p e s m args below meth c C hr hlk ls hl hW
  have hx := C.1
  have hb := C.2.1
  have hl : lv_has ls 3 [(0, .int a0)] := hl
  refine lv_iconst (v := 0) hx hb dX10_ones_0 (by decide) ?_
  refine lv_istore_n (lv' := [(1, .int 0), (0, .int a0)]) hx hb dX10_ones_1 rfl hl (by decide) rfl (fun ls hl => ?_)
  refine lv_iconst (v := 0) hx hb dX10_ones_2 (by decide) ?_
  refine lv_istore_n (lv' := [(2, .int 0), (1, .int 0), (0, .int a0)]) hx hb dX10_ones_3 rfl hl (by decide) rfl (fun ls hl => ?_)
  have L4 : ∀ (n : Nat) (k : Nat) (v : Int32) (H : Heap) (locs : List Loc) (ls : Array Slot), n + k = 8 → v = (mOnes a0 k) → gW G s σ τ H locs → lv_has ls 3 [(2, .int (nI k)), (1, .int v), (0, .int a0)] → W p l e (gRm 0 0) s m args below meth c H locs 0 0 (MQ below (gQi G (mOnes a0 8) σ τ) args s 0 0 (gA G)) (F0 m 4 ls []) := by
    intro n
    induction n with
    | zero =>
      intro k v H locs ls hm hv hW hl
      refine lv_iload_n hx hb dX10_ones_4 rfl (lv_at hl 0 rfl) ?_
      refine lv_bipush (v := 8) hx hb dX10_ones_5 (by decide) ?_
      refine lv_icmp_ge (tgt := 24) hx hb dX10_ones_7 (by decide) (fun _ => ?_) (fun zz => absurd (show nI 8 ≤ nI k from nI_le (by omega) (by omega)) zz)
      refine lv_iload_n hx hb dX10_ones_24 rfl (lv_at hl 1 rfl) ?_
      exact g_iret C hr hlk hW dX10_ones_25 (by rw [hv, show k = 8 by omega]) (rfl) (rfl)
    | succ n ih4 =>
      intro k v H locs ls hm hv hW hl
      refine lv_iload_n hx hb dX10_ones_4 rfl (lv_at hl 0 rfl) ?_
      refine lv_bipush (v := 8) hx hb dX10_ones_5 (by decide) ?_
      refine lv_icmp_ge (tgt := 24) hx hb dX10_ones_7 (by decide) (fun zz => absurd zz (show ¬ nI 8 ≤ nI k from nI_ge (by omega) (by omega))) (fun _ => ?_)
      refine lv_iload_n hx hb dX10_ones_10 rfl (lv_at hl 1 rfl) ?_
      refine lv_iload_n hx hb dX10_ones_11 rfl (lv_at hl 2 rfl) ?_
      refine lv_iload_n hx hb dX10_ones_12 rfl (lv_at hl 0 rfl) ?_
      refine lv_ishr hx hb dX10_ones_13 ?_
      refine lv_iconst (v := 1) hx hb dX10_ones_14 (by decide) ?_
      refine lv_iand hx hb dX10_ones_15 ?_
      refine lv_iadd hx hb dX10_ones_16 ?_
      refine lv_istore_n (lv' := [(1, .int (v + ((a0 >>> ((nI k) &&& 31)) &&& 1))), (2, .int (nI k)), (0, .int a0)]) hx hb dX10_ones_17 rfl hl (by decide) rfl (fun ls hl => ?_)
      refine lv_iinc (v := nI (k + 1)) (lv' := [(2, .int (nI (k + 1))), (1, .int (v + ((a0 >>> ((nI k) &&& 31)) &&& 1))), (0, .int a0)]) hx hb dX10_ones_18 hl (k := 1) rfl (nI_1 _) (by decide) rfl (fun ls hl => ?_)
      refine lv_goto (tgt := 4) hx hb dX10_ones_21 (by decide) ?_
      exact ih4 (k + 1) (v + ((a0 >>> ((nI k) &&& 31)) &&& 1)) _ _ _ (by omega) (by simp [bI, mOnes, hv]) hW (lv_sub hl [0, 1, 2] rfl)
  exact L4 8 0 0 _ _ _ (by omega) (by first | rfl | simp [bI, mOnes]) hW (lv_sub hl [0, 1, 2] rfl)
set_option maxHeartbeats 4000000 in
set_option maxRecDepth 100000 in
theorem m_isLetter (l : Launch) (G : gG) (σ : gSt) (τ : Nat → Int64) (a0 : Int32) : gI l yX10_isLetter cX10_isLetter 1 (some .boolean) 0 0 G [.int a0] σ τ (bI (mIsL a0)) σ τ := by
  refine gMet_of (by decide) (Nat.le_of_ble_eq_true rfl) ?_
  intro p e s m args below meth c C hr hlk ls hl hW
  have hx := C.1
  have hb := C.2.1
  have hl : lv_has ls 1 [(0, .int a0)] := hl
  refine lv_iload_n hx hb dX10_isLetter_0 rfl (lv_at hl 0 rfl) ?_
  refine lv_bipush (v := 119) hx hb dX10_isLetter_1 (by decide) ?_
  refine lv_icmp_eq (tgt := 30) hx hb dX10_isLetter_3 (by decide) (fun c_1 => ?_) (fun c_1 => ?_)
  · skip
    refine lv_iconst (v := 1) hx hb dX10_isLetter_30 (by decide) ?_
    refine lv_goto (tgt := 35) hx hb dX10_isLetter_31 (by decide) ?_
    exact g_zret C hr hlk hW dX10_isLetter_35 (rfl) (by simp [bI, mIsL, c_1]) (rfl) (rfl)
  · skip
    refine lv_iload_n hx hb dX10_isLetter_6 rfl (lv_at hl 0 rfl) ?_
    refine lv_bipush (v := 112) hx hb dX10_isLetter_7 (by decide) ?_
    refine lv_icmp_eq (tgt := 30) hx hb dX10_isLetter_9 (by decide) (fun c_2 => ?_) (fun c_2 => ?_)
    · skip
      refine lv_iconst (v := 1) hx hb dX10_isLetter_30 (by decide) ?_
      refine lv_goto (tgt := 35) hx hb dX10_isLetter_31 (by decide) ?_
      exact g_zret C hr hlk hW dX10_isLetter_35 (rfl) (by simp [bI, mIsL, c_1, c_2]) (rfl) (rfl)
    · skip
      refine lv_iload_n hx hb dX10_isLetter_12 rfl (lv_at hl 0 rfl) ?_
      refine lv_bipush (v := 100) hx hb dX10_isLetter_13 (by decide) ?_
      refine lv_icmp_eq (tgt := 30) hx hb dX10_isLetter_15 (by decide) (fun c_3 => ?_) (fun c_3 => ?_)
      · skip
        refine lv_iconst (v := 1) hx hb dX10_isLetter_30 (by decide) ?_
        refine lv_goto (tgt := 35) hx hb dX10_isLetter_31 (by decide) ?_
        exact g_zret C hr hlk hW dX10_isLetter_35 (rfl) (by simp [bI, mIsL, c_1, c_2, c_3]) (rfl) (rfl)
      · skip
        refine lv_iload_n hx hb dX10_isLetter_18 rfl (lv_at hl 0 rfl) ?_
        refine lv_bipush (v := 103) hx hb dX10_isLetter_19 (by decide) ?_
        refine lv_icmp_eq (tgt := 30) hx hb dX10_isLetter_21 (by decide) (fun c_4 => ?_) (fun c_4 => ?_)
        · skip
          refine lv_iconst (v := 1) hx hb dX10_isLetter_30 (by decide) ?_
          refine lv_goto (tgt := 35) hx hb dX10_isLetter_31 (by decide) ?_
          exact g_zret C hr hlk hW dX10_isLetter_35 (rfl) (by simp [bI, mIsL, c_1, c_2, c_3, c_4]) (rfl) (rfl)
        · skip
          refine lv_iload_n hx hb dX10_isLetter_24 rfl (lv_at hl 0 rfl) ?_
          refine lv_bipush (v := 102) hx hb dX10_isLetter_25 (by decide) ?_
          refine lv_icmp_ne (tgt := 34) hx hb dX10_isLetter_27 (by decide) (fun c_5 => ?_) (fun c_5 => ?_)
          · skip
            refine lv_iconst (v := 0) hx hb dX10_isLetter_34 (by decide) ?_
            exact g_zret C hr hlk hW dX10_isLetter_35 (rfl) (by simp [bI, mIsL, c_1, c_2, c_3, c_4, c_5]) (rfl) (rfl)
          · skip
            refine lv_iconst (v := 1) hx hb dX10_isLetter_30 (by decide) ?_
            refine lv_goto (tgt := 35) hx hb dX10_isLetter_31 (by decide) ?_
            exact g_zret C hr hlk hW dX10_isLetter_35 (rfl) (by simp [bI, mIsL, c_1, c_2, c_3, c_4, c_5]) (rfl) (rfl)
set_option maxHeartbeats 4000000 in
set_option maxRecDepth 100000 in
theorem m_isWell (l : Launch) (G : gG) (σ : gSt) (τ : Nat → Int64) : gI l yX10_isWell cX10_isWell 1 (some .boolean) 0 0 G [.ref (gAd G 96)] σ τ (bI (decide (σ 96 8 < 0))) σ τ := by
  refine gMet_of (by decide) (Nat.le_of_ble_eq_true rfl) ?_
  intro p e s m args below meth c C hr hlk ls hl hW
  have hx := C.1
  have hb := C.2.1
  have hl : lv_has ls 1 [(0, .ref (gAd G 96))] := hl
  refine lv_aload_n hx hb dX10_isWell_0 rfl (lv_at hl 0 rfl) ?_
  refine gf_X10_93 (v := σ 96 8) C hW (by decide) rfl rfl dX10_isWell_1 ?_
  refine lv_if_ge (tgt := 11) hx hb dX10_isWell_4 (by decide) (fun c_1 => ?_) (fun c_1 => ?_)
  · skip
    refine lv_iconst (v := 0) hx hb dX10_isWell_11 (by decide) ?_
    exact g_zret C hr hlk hW dX10_isWell_12 (rfl) (by simp [bI, c_1]) (rfl) (rfl)
  · skip
    refine lv_iconst (v := 1) hx hb dX10_isWell_7 (by decide) ?_
    refine lv_goto (tgt := 12) hx hb dX10_isWell_8 (by decide) ?_
    exact g_zret C hr hlk hW dX10_isWell_12 (rfl) (by simp [bI, c_1]) (rfl) (rfl)
set_option maxHeartbeats 4000000 in
set_option maxRecDepth 100000 in
theorem m_type (l : Launch) (G : gG) (σ : gSt) (τ : Nat → Int64) (a0 : Int32) (t : Nat) (ht : σ 96 3 = nI t) (ht2 : t ≤ 200) : gI l yX10_type cX10_type 2 (some .int) 1 22 G [.ref (gAd G 96), .int a0] σ τ (if mIn a0 0 255 = true then (if t = 200 then -3 else nI (t + 1)) else -1) (if mIn a0 0 255 = true ∧ t < 200 then gu (gu σ 97 t a0) 96 3 (nI (t + 1)) else σ) τ := by
  refine gMet_of (by decide) (Nat.le_of_ble_eq_true rfl) ?_
  intro p e s m args below meth c C hr hlk ls hl hW
  have hx := C.1
  have hb := C.2.1
  have hl : lv_has ls 2 [(0, .ref (gAd G 96)), (1, .int a0)] := hl
  refine lv_aload_n hx hb dX10_type_0 rfl (lv_at hl 0 rfl) ?_
  refine lv_iconst (v := 0) hx hb dX10_type_1 (by decide) ?_
  refine gp_X10_62 C hW (by decide) rfl dX10_type_2 (fun H locs hW => ?_)
  refine lv_iload_n hx hb dX10_type_5 rfl (lv_at hl 1 rfl) ?_
  refine lv_iconst (v := 0) hx hb dX10_type_6 (by decide) ?_
  refine lv_sipush (v := 255) hx hb dX10_type_7 (by decide) ?_
  refine g_callsI (r := bI (mIn a0 0 255)) (σ' := σ) (rest := []) (As := [.int a0, .int 0, .int 255]) C hW ks_X10_66 (m_in l G σ τ a0 0 255) ⟨Nat.le_of_ble_eq_true rfl, Nat.le_of_ble_eq_true rfl⟩ ⟨Nat.le_refl _, Nat.le_refl _⟩ rfl hl.1 rfl (Nat.le_of_ble_eq_true rfl) dX10_type_10 (fun H locs hW => ?_)
  refine lv_if_ne (tgt := 18) hx hb dX10_type_13 (by decide) (fun c_1 => ?_) (fun c_1 => ?_)
  · skip
    replace c_1 : (mIn a0 0 255) = true := bI_ne0.mp c_1
    refine lv_aload_n hx hb dX10_type_18 rfl (lv_at hl 0 rfl) ?_
    refine gf_X10_70 (v := nI t) C hW (by decide) rfl ht dX10_type_19 ?_
    refine lv_sipush (v := 200) hx hb dX10_type_22 (by decide) ?_
    refine lv_icmp_ne (tgt := 31) hx hb dX10_type_25 (by decide) (fun c_2 => ?_) (fun c_2 => ?_)
    · skip
      replace c_2 : ¬ t = 200 := mt (nI_eq (a := t) (b := 200) (by omega) (by omega)).mpr c_2
      refine lv_aload_n hx hb dX10_type_31 rfl (lv_at hl 0 rfl) ?_
      refine gf_X10_7 C hW (by decide) rfl dX10_type_32 ?_
      refine lv_aload_n hx hb dX10_type_35 rfl (lv_at hl 0 rfl) ?_
      refine gf_X10_70 (v := nI t) C hW (by decide) rfl ht dX10_type_36 ?_
      refine lv_iload_n hx hb dX10_type_39 rfl (lv_at hl 1 rfl) ?_
      refine g_ast t C hW (by decide) rfl rfl (show t < 200 by omega) (by decide) dX10_type_40 (fun H locs hW => ?_)
      refine lv_aload_n hx hb dX10_type_41 rfl (lv_at hl 0 rfl) ?_
      refine lv_dup hx hb dX10_type_42 rfl ?_
      refine gf_X10_70 (v := nI t) C hW (by decide) rfl ht dX10_type_43 ?_
      refine lv_iconst (v := 1) hx hb dX10_type_46 (by decide) ?_
      refine lv_iadd hx hb dX10_type_47 ?_
      refine gp_X10_70 C hW (by decide) rfl dX10_type_48 (fun H locs hW => ?_)
      refine lv_aload_n hx hb dX10_type_51 rfl (lv_at hl 0 rfl) ?_
      refine gf_X10_70 (v := (nI t) + 1) C hW (by decide) rfl rfl dX10_type_52 ?_
      exact g_iret C hr hlk hW dX10_type_55 (by simp [c_1, c_2, nI_1]) (by rw [if_pos ⟨c_1, by omega⟩, nI_1]) (rfl)
    · skip
      replace c_2 : t = 200 := (nI_eq (a := t) (b := 200) (by omega) (by omega)).mp c_2
      refine lv_bipush (v := (-3)) hx hb dX10_type_28 (by decide) ?_
      exact g_iret C hr hlk hW dX10_type_30 (by simp_all [nI_1]) (by rw [if_neg (by rintro ⟨q1, q2⟩; simp_all)]) (rfl)
  · skip
    replace c_1 : (mIn a0 0 255) = false := bI_eq0.mp c_1
    refine lv_iconst (v := (-1)) hx hb dX10_type_16 (by decide) ?_
    exact g_iret C hr hlk hW dX10_type_17 (by simp_all [nI_1]) (by rw [if_neg (by rintro ⟨q1, q2⟩; simp_all)]) (rfl)
set_option maxHeartbeats 4000000 in
set_option maxRecDepth 100000 in
theorem m_clear (l : Launch) (G : gG) (σ : gSt) (τ : Nat → Int64) : gI l yX10_clear cX10_clear 2 (some .int) 0 0 G [.ref (gAd G 96)] σ τ (σ 96 3) (gu σ 96 3 0) τ := by
  refine gMet_of (by decide) (Nat.le_of_ble_eq_true rfl) ?_
  intro p e s m args below meth c C hr hlk ls hl hW
  have hx := C.1
  have hb := C.2.1
  have hl : lv_has ls 2 [(0, .ref (gAd G 96))] := hl
  refine lv_aload_n hx hb dX10_clear_0 rfl (lv_at hl 0 rfl) ?_
  refine lv_iconst (v := 0) hx hb dX10_clear_1 (by decide) ?_
  refine gp_X10_62 C hW (by decide) rfl dX10_clear_2 (fun H locs hW => ?_)
  refine lv_aload_n hx hb dX10_clear_5 rfl (lv_at hl 0 rfl) ?_
  refine gf_X10_70 (v := σ 96 3) C hW (by decide) rfl rfl dX10_clear_6 ?_
  refine lv_istore_n (lv' := [(1, .int (σ 96 3)), (0, .ref (gAd G 96))]) hx hb dX10_clear_9 rfl hl (by decide) rfl (fun ls hl => ?_)
  refine lv_aload_n hx hb dX10_clear_10 rfl (lv_at hl 1 rfl) ?_
  refine lv_iconst (v := 0) hx hb dX10_clear_11 (by decide) ?_
  refine gp_X10_70 C hW (by decide) rfl dX10_clear_12 (fun H locs hW => ?_)
  refine lv_iload_n hx hb dX10_clear_15 rfl (lv_at hl 0 rfl) ?_
  exact g_iret C hr hlk hW dX10_clear_16 (by simp [bI]) (rfl) (rfl)
set_option maxHeartbeats 4000000 in
set_option maxRecDepth 100000 in
theorem m_letterAt (l : Launch) (G : gG) (σ : gSt) (τ : Nat → Int64) (k : Nat) (hk : k ≤ 200) (t : Nat) (ht : σ 96 3 = nI t) (ht2 : t ≤ 200) : gI l yX10_letterAt cX10_letterAt 2 (some .int) 0 0 G [.ref (gAd G 96), .int (nI k)] σ τ (rLet (σ 97) t k) σ τ := by
  refine gMet_of (by decide) (Nat.le_of_ble_eq_true rfl) ?_
  intro p e s m args below meth c C hr hlk ls hl hW
  have hx := C.1
  have hb := C.2.1
  have hl : lv_has ls 2 [(0, .ref (gAd G 96)), (1, .int (nI k))] := hl
  refine lv_iload_n hx hb dX10_letterAt_0 rfl (lv_at hl 1 rfl) ?_
  refine lv_aload_n hx hb dX10_letterAt_1 rfl (lv_at hl 0 rfl) ?_
  refine gf_X10_70 (v := nI t) C hW (by decide) rfl ht dX10_letterAt_2 ?_
  refine lv_icmp_ge (tgt := 17) hx hb dX10_letterAt_5 (by decide) (fun c_1 => ?_) (fun c_1 => ?_)
  · skip
    replace c_1 : t ≤ k := (nI_leI (a := t) (b := k) (by omega) (by omega)).mp c_1
    refine lv_iconst (v := (-1)) hx hb dX10_letterAt_17 (by decide) ?_
    exact g_iret C hr hlk hW dX10_letterAt_18 (by rw [rLet, if_neg (by omega)]) (rfl) (rfl)
  · skip
    replace c_1 : k < t := Nat.not_le.mp (mt (nI_leI (a := t) (b := k) (by omega) (by omega)).mpr c_1)
    refine lv_aload_n hx hb dX10_letterAt_8 rfl (lv_at hl 0 rfl) ?_
    refine gf_X10_7 C hW (by decide) rfl dX10_letterAt_9 ?_
    refine lv_iload_n hx hb dX10_letterAt_12 rfl (lv_at hl 1 rfl) ?_
    refine g_ald (v := σ 97 k) k C hW (by decide) rfl rfl (show k < 200 by omega) (by decide) rfl dX10_letterAt_13 ?_
    refine lv_goto (tgt := 18) hx hb dX10_letterAt_14 (by decide) ?_
    exact g_iret C hr hlk hW dX10_letterAt_18 (by rw [rLet, if_pos (by omega)]) (rfl) (rfl)
set_option maxHeartbeats 4000000 in
set_option maxRecDepth 100000 in
theorem m_isRung (l : Launch) (G : gG) (σ : gSt) (τ : Nat → Int64) (a0 a1 a2 : Int32) (D : Nat) (hD : σ 98 2 = nI D) (hD8 : D ≤ 8) : gI l yX10_isRung cX10_isRung 7 (some .boolean) 0 0 G [.ref (gAd G 96), .int a0, .int a1, .int a2] σ τ (bI (mRung σ (σ 96 25) a0 a1 a2 D)) σ τ := by
  refine gMet_of (by decide) (Nat.le_of_ble_eq_true rfl) ?_
  intro p e s m args below meth c C hr hlk ls hl hW
  have hx := C.1
  have hb := C.2.1
  have hl : lv_has ls 7 [(0, .ref (gAd G 96)), (1, .int a0), (2, .int a1), (3, .int a2)] := hl
  refine lv_iconst (v := 0) hx hb dX10_isRung_0 (by decide) ?_
  refine lv_istore (lv' := [(4, .int 0), (0, .ref (gAd G 96)), (1, .int a0), (2, .int a1), (3, .int a2)]) hx hb dX10_isRung_1 hl (by decide) rfl (fun ls hl => ?_)
  refine lv_iconst (v := 0) hx hb dX10_isRung_3 (by decide) ?_
  refine lv_istore (lv' := [(5, .int 0), (4, .int 0), (0, .ref (gAd G 96)), (1, .int a0), (2, .int a1), (3, .int a2)]) hx hb dX10_isRung_4 hl (by decide) rfl (fun ls hl => ?_)
  have L6 : ∀ (n : Nat) (d : Nat) (v : Bool) (H : Heap) (locs : List Loc) (ls : Array Slot), n + d = D → v = (mRung σ (σ 96 25) a0 a1 a2 d) → gW G s σ τ H locs → lv_has ls 7 [(5, .int (nI d)), (4, .int (bI v)), (0, .ref (gAd G 96)), (1, .int a0), (2, .int a1), (3, .int a2)] → W p l e (gRm 0 0) s m args below meth c H locs 0 0 (MQ below (gQi G (bI (mRung σ (σ 96 25) a0 a1 a2 D)) σ τ) args s 0 0 (gA G)) (F0 m 6 ls []) := by
    intro n
    induction n with
    | zero =>
      intro d v H locs ls hm hv hW hl
      refine lv_iload hx hb dX10_isRung_6 (lv_at hl 0 rfl) ?_
      refine lv_aload_n hx hb dX10_isRung_8 rfl (lv_at hl 2 rfl) ?_
      refine gf_X10_13 C hW (by decide) rfl dX10_isRung_9 ?_
      refine lv_iconst (v := 2) hx hb dX10_isRung_12 (by decide) ?_
      refine g_ald (v := nI D) 2 C hW (by decide) rfl rfl (by decide) (by decide) hD dX10_isRung_13 ?_
      refine lv_icmp_ge (tgt := 121) hx hb dX10_isRung_14 (by decide) (fun _ => ?_) (fun zz => absurd (show nI D ≤ nI d from nI_le (by omega) (by omega)) zz)
      refine lv_iload hx hb dX10_isRung_121 (lv_at hl 1 rfl) ?_
      exact g_zret C hr hlk hW dX10_isRung_123 (bI_nar _) (by rw [hv, show d = D by omega]) (rfl) (rfl)
    | succ n ih6 =>
      intro d v H locs ls hm hv hW hl
      refine lv_iload hx hb dX10_isRung_6 (lv_at hl 0 rfl) ?_
      refine lv_aload_n hx hb dX10_isRung_8 rfl (lv_at hl 2 rfl) ?_
      refine gf_X10_13 C hW (by decide) rfl dX10_isRung_9 ?_
      refine lv_iconst (v := 2) hx hb dX10_isRung_12 (by decide) ?_
      refine g_ald (v := nI D) 2 C hW (by decide) rfl rfl (by decide) (by decide) hD dX10_isRung_13 ?_
      refine lv_icmp_ge (tgt := 121) hx hb dX10_isRung_14 (by decide) (fun zz => absurd zz (show ¬ nI D ≤ nI d from nI_ge (by omega) (by omega))) (fun _ => ?_)
      have K59 : ∀ (w : Bool), w = (rOn (σ 102) (σ 103) (σ 98 4) a1 d) → ∀ (H : Heap) (locs : List Loc) (ls : Array Slot), gW G s σ τ H locs → lv_has ls 7 [(5, .int (nI d)), (4, .int (bI v)), (0, .ref (gAd G 96)), (1, .int a0), (2, .int a1), (3, .int a2)] → W p l e (gRm 0 0) s m args below meth c H locs 0 0 (MQ below (gQi G (bI (mRung σ (σ 96 25) a0 a1 a2 D)) σ τ) args s 0 0 (gA G)) (F0 m 59 ls [.int (bI w)]) := by
        intro w hw H locs ls hW hl
        refine lv_istore (lv' := [(6, .int (bI w)), (5, .int (nI d)), (4, .int (bI v)), (0, .ref (gAd G 96)), (1, .int a0), (2, .int a1), (3, .int a2)]) hx hb dX10_isRung_59 hl (by decide) rfl (fun ls hl => ?_)
        have K113 : ∀ (z : Bool), z = (mRung σ (σ 96 25) a0 a1 a2 (d + 1)) → ∀ (H : Heap) (locs : List Loc) (ls : Array Slot), gW G s σ τ H locs → lv_has ls 7 [(6, .int (bI w)), (5, .int (nI d)), (4, .int (bI v)), (0, .ref (gAd G 96)), (1, .int a0), (2, .int a1), (3, .int a2)] → W p l e (gRm 0 0) s m args below meth c H locs 0 0 (MQ below (gQi G (bI (mRung σ (σ 96 25) a0 a1 a2 D)) σ τ) args s 0 0 (gA G)) (F0 m 113 ls [.int (bI z)]) := by
          intro z hz H locs ls hW hl
          refine lv_istore (lv' := [(4, .int (bI z)), (6, .int (bI w)), (5, .int (nI d)), (0, .ref (gAd G 96)), (1, .int a0), (2, .int a1), (3, .int a2)]) hx hb dX10_isRung_113 hl (by decide) rfl (fun ls hl => ?_)
          refine lv_iinc (v := nI (d + 1)) (lv' := [(5, .int (nI (d + 1))), (4, .int (bI z)), (6, .int (bI w)), (0, .ref (gAd G 96)), (1, .int a0), (2, .int a1), (3, .int a2)]) hx hb dX10_isRung_115 hl (k := 2) rfl (nI_1 _) (by decide) rfl (fun ls hl => ?_)
          refine lv_goto (tgt := 6) hx hb dX10_isRung_118 (by decide) ?_
          exact ih6 (d + 1) z _ _ _ (by omega) (by exact hz) hW (lv_sub hl [0, 1, 3, 4, 5, 6] rfl)
        refine lv_iload hx hb dX10_isRung_61 (lv_at hl 2 rfl) ?_
        refine lv_if_ne (tgt := 108) hx hb dX10_isRung_63 (by decide) (fun c_1 => ?_) (fun c_1 => ?_)
        · skip
          replace c_1 : v = true := bI_ne0.mp c_1
          refine lv_iconst (v := 1) hx hb dX10_isRung_108 (by decide) ?_
          refine lv_goto (tgt := 113) hx hb dX10_isRung_109 (by decide) ?_
          exact K113 true (by simp_all [rRung, rDue]) _ _ _ hW (lv_sub hl [0, 1, 2, 3, 4, 5, 6] rfl)
        · skip
          replace c_1 : v = false := bI_eq0.mp c_1
          refine lv_aload_n hx hb dX10_isRung_66 rfl (lv_at hl 3 rfl) ?_
          refine gf_X10_31 C hW (by decide) rfl dX10_isRung_67 ?_
          refine lv_bipush (v := 17) hx hb dX10_isRung_70 (by decide) ?_
          refine lv_iload hx hb dX10_isRung_72 (lv_at hl 1 rfl) ?_
          refine lv_iadd hx hb dX10_isRung_74 ?_
          refine g_ald (v := σ 104 (17 + d)) (17 + d) C hW (by decide) rfl (gadd (rfl : 17 = nI 17) (rfl : nI d = nI d)) (show (17 + d) < 25 by omega) (by decide) rfl dX10_isRung_75 ?_
          refine lv_iload_n hx hb dX10_isRung_76 rfl (lv_at hl 4 rfl) ?_
          refine lv_icmp_ne (tgt := 112) hx hb dX10_isRung_77 (by decide) (fun c_2 => ?_) (fun c_2 => ?_)
          · skip
            refine lv_iconst (v := 0) hx hb dX10_isRung_112 (by decide) ?_
            exact K113 false (by simp_all [rRung, rDue]) _ _ _ hW (lv_sub hl [0, 1, 2, 3, 4, 5, 6] rfl)
          · skip
            refine lv_aload_n hx hb dX10_isRung_80 rfl (lv_at hl 3 rfl) ?_
            refine gf_X10_127 (v := σ 96 25) C hW (by decide) rfl rfl dX10_isRung_81 ?_
            refine lv_iload hx hb dX10_isRung_84 (lv_at hl 1 rfl) ?_
            refine lv_ishr hx hb dX10_isRung_86 ?_
            refine lv_iconst (v := 1) hx hb dX10_isRung_87 (by decide) ?_
            refine lv_iand hx hb dX10_isRung_88 ?_
            refine lv_if_ne (tgt := 112) hx hb dX10_isRung_89 (by decide) (fun c_3 => ?_) (fun c_3 => ?_)
            · skip
              refine lv_iconst (v := 0) hx hb dX10_isRung_112 (by decide) ?_
              exact K113 false (by simp_all [rRung, rDue]) _ _ _ hW (lv_sub hl [0, 1, 2, 3, 4, 5, 6] rfl)
            · skip
              refine lv_iload hx hb dX10_isRung_92 (lv_at hl 0 rfl) ?_
              refine lv_if_eq (tgt := 112) hx hb dX10_isRung_94 (by decide) (fun c_4 => ?_) (fun c_4 => ?_)
              · skip
                replace c_4 : w = false := bI_eq0.mp c_4
                refine lv_iconst (v := 0) hx hb dX10_isRung_112 (by decide) ?_
                exact K113 false (by simp_all [rRung, rDue]) _ _ _ hW (lv_sub hl [0, 1, 2, 3, 4, 5, 6] rfl)
              · skip
                replace c_4 : w = true := bI_ne0.mp c_4
                refine lv_aload_n hx hb dX10_isRung_97 rfl (lv_at hl 3 rfl) ?_
                refine gf_X10_22 C hW (by decide) rfl dX10_isRung_98 ?_
                refine lv_iload hx hb dX10_isRung_101 (lv_at hl 1 rfl) ?_
                refine g_ald (v := σ 101 d) d C hW (by decide) rfl rfl (show d < 16 by omega) (by decide) rfl dX10_isRung_103 ?_
                refine lv_iload_n hx hb dX10_isRung_104 rfl (lv_at hl 6 rfl) ?_
                refine lv_icmp_eq (tgt := 112) hx hb dX10_isRung_105 (by decide) (fun c_5 => ?_) (fun c_5 => ?_)
                · skip
                  refine lv_iconst (v := 0) hx hb dX10_isRung_112 (by decide) ?_
                  exact K113 false (by simp_all [rRung, rDue]) _ _ _ hW (lv_sub hl [0, 1, 2, 3, 4, 5, 6] rfl)
                · skip
                  refine lv_iconst (v := 1) hx hb dX10_isRung_108 (by decide) ?_
                  refine lv_goto (tgt := 113) hx hb dX10_isRung_109 (by decide) ?_
                  exact K113 true (by simp_all [rRung, rDue]) _ _ _ hW (lv_sub hl [0, 1, 2, 3, 4, 5, 6] rfl)
      refine lv_iload_n hx hb dX10_isRung_17 rfl (lv_at hl 4 rfl) ?_
      refine lv_aload_n hx hb dX10_isRung_18 rfl (lv_at hl 2 rfl) ?_
      refine gf_X10_25 C hW (by decide) rfl dX10_isRung_19 ?_
      refine lv_iload hx hb dX10_isRung_22 (lv_at hl 0 rfl) ?_
      refine g_ald (v := σ 102 d) d C hW (by decide) rfl rfl (show d < 16 by omega) (by decide) rfl dX10_isRung_24 ?_
      refine lv_aload_n hx hb dX10_isRung_25 rfl (lv_at hl 2 rfl) ?_
      refine gf_X10_13 C hW (by decide) rfl dX10_isRung_26 ?_
      refine lv_iconst (v := 4) hx hb dX10_isRung_29 (by decide) ?_
      refine g_ald (v := σ 98 4) 4 C hW (by decide) rfl rfl (by decide) (by decide) rfl dX10_isRung_30 ?_
      refine lv_iadd hx hb dX10_isRung_31 ?_
      refine lv_icmp_lt (tgt := 58) hx hb dX10_isRung_32 (by decide) (fun c_6 => ?_) (fun c_6 => ?_)
      · skip
        refine lv_iconst (v := 0) hx hb dX10_isRung_58 (by decide) ?_
        exact K59 false (by simp [bI, rOn, hv, c_6]) _ _ _ hW (lv_sub hl [0, 1, 2, 3, 4, 5] rfl)
      · skip
        refine lv_iload_n hx hb dX10_isRung_35 rfl (lv_at hl 4 rfl) ?_
        refine lv_aload_n hx hb dX10_isRung_36 rfl (lv_at hl 2 rfl) ?_
        refine gf_X10_25 C hW (by decide) rfl dX10_isRung_37 ?_
        refine lv_iload hx hb dX10_isRung_40 (lv_at hl 0 rfl) ?_
        refine g_ald (v := σ 102 d) d C hW (by decide) rfl rfl (show d < 16 by omega) (by decide) rfl dX10_isRung_42 ?_
        refine lv_aload_n hx hb dX10_isRung_43 rfl (lv_at hl 2 rfl) ?_
        refine gf_X10_28 C hW (by decide) rfl dX10_isRung_44 ?_
        refine lv_iload hx hb dX10_isRung_47 (lv_at hl 0 rfl) ?_
        refine g_ald (v := σ 103 d) d C hW (by decide) rfl rfl (show d < 16 by omega) (by decide) rfl dX10_isRung_49 ?_
        refine lv_iadd hx hb dX10_isRung_50 ?_
        refine lv_icmp_ge (tgt := 58) hx hb dX10_isRung_51 (by decide) (fun c_7 => ?_) (fun c_7 => ?_)
        · skip
          refine lv_iconst (v := 0) hx hb dX10_isRung_58 (by decide) ?_
          exact K59 false (by simp [bI, rOn, hv, c_6, c_7]) _ _ _ hW (lv_sub hl [0, 1, 2, 3, 4, 5] rfl)
        · skip
          refine lv_iconst (v := 1) hx hb dX10_isRung_54 (by decide) ?_
          refine lv_goto (tgt := 59) hx hb dX10_isRung_55 (by decide) ?_
          exact K59 true (by simp [bI, rOn, hv, c_6, c_7]) _ _ _ hW (lv_sub hl [0, 1, 2, 3, 4, 5] rfl)
  exact L6 D 0 false _ _ _ (by omega) (by first | rfl | simp [bI]) hW (lv_sub hl [0, 1, 2, 3, 4, 5] rfl)
