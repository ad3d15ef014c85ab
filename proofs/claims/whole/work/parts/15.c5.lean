/-! ===== the class: reading ===== -/
def kPS (σ : gSt) (ah tk sa nu : Int32) : gSt := gu (gu (gu (gu σ 1 7 ah) 1 4 tk) 1 5 sa) 1 6 nu
theorem kPS_at (σ : gSt) (ah tk sa nu : Int32) (c j : Nat) : kPS σ ah tk sa nu c j = if c = 1 ∧ j = 6 then nu else if c = 1 ∧ j = 5 then sa else if c = 1 ∧ j = 4 then tk else if c = 1 ∧ j = 7 then ah else σ c j := by
  simp only [kPS, gu_at]
theorem kPS_ne {σ : gSt} {ah tk sa nu : Int32} {c : Nat} (h : c ≠ 1) : kPS σ ah tk sa nu c = σ c := by
  funext j
  simp [kPS_at, h]
theorem kPS_self (σ : gSt) : kPS σ (σ 1 7) (σ 1 4) (σ 1 5) (σ 1 6) = σ := by
  funext c j
  rw [kPS_at]
  split
  · next h => rw [h.1, h.2]
  · split
    · next h => rw [h.1, h.2]
    · split
      · next h => rw [h.1, h.2]
      · split
        · next h => rw [h.1, h.2]
        · rfl
theorem kPS_6 (σ : gSt) (ah tk sa nu x : Int32) : gu (kPS σ ah tk sa nu) 1 6 x = kPS σ ah tk sa x := by
  funext c j
  simp only [kPS_at, gu_at]
  split <;> rfl
theorem kPS_5 (σ : gSt) (ah tk sa nu x : Int32) : gu (kPS σ ah tk sa nu) 1 5 x = kPS σ ah tk x nu := by
  funext c j
  simp only [kPS_at, gu_at]
  by_cases h : c = 1 <;> by_cases h7 : j = 6 <;> by_cases h6 : j = 5 <;> simp_all
theorem kPS_4 (σ : gSt) (ah tk sa nu x : Int32) : gu (kPS σ ah tk sa nu) 1 4 x = kPS σ ah x sa nu := by
  funext c j
  simp only [kPS_at, gu_at]
  by_cases h : c = 1 <;> by_cases h7 : j = 6 <;> by_cases h6 : j = 5 <;> by_cases h5 : j = 4 <;> simp_all
theorem kPS_7 (σ : gSt) (ah tk sa nu x : Int32) : gu (kPS σ ah tk sa nu) 1 7 x = kPS σ x tk sa nu := by
  funext c j
  simp only [kPS_at, gu_at]
  by_cases h : c = 1 <;> by_cases h7 : j = 6 <;> by_cases h6 : j = 5 <;> by_cases h5 : j = 4 <;> by_cases h4 : j = 7 <;> simp_all
theorem rLet_lt {tx : Nat → Int32} {t k : Nat} (h : k < t) : rLet tx t k = tx k := if_pos h
def kNumV (tx : Nat → Int32) (t : Nat) : Nat → Int32 → Nat → Int32
  | 0, v, _ => v
  | n + 1, v, k => if mIn (rLet tx t k) 48 57 = true then kNumV tx t n (if v * 10 + rLet tx t k - 48 < 240 then v * 10 + rLet tx t k - 48 else 240) (k + 1) else v
def kWord (c : Int32) : Bool := decide (c = 119) || decide (c = 112) || decide (c = 100) || decide (c = 103) || decide (c = 102) || decide (c = 59)
def kTokK (tx : Nat → Int32) (t K : Nat) : Int32 :=
  if K < t then
    (if rNumE tx t (t - K) K ≤ K then (if kWord (tx K) = true then tx K else -3)
    else if (decide (tx K = 48) && !decide (rNumE tx t (t - K) K - K ≤ 1)) = true then -3 else if kNumV tx t (t - K) 0 K ≤ 239 then -2 else -3)
  else -1
def kTokE (tx : Nat → Int32) (t K : Nat) : Nat := if K < t then (if rNumE tx t (t - K) K ≤ K then rNumE tx t (t - K) K + 1 else rNumE tx t (t - K) K) else rNumE tx t (t - K) K
def kK (σ : gSt) (t : Nat) : Nat := rSkip (σ 2) t (t - (σ 1 7).toNatClampNeg) (σ 1 7).toNatClampNeg
def kAdvS (σ : gSt) (t : Nat) : gSt := kPS σ (nI (kTokE (σ 2) t (kK σ t))) (kTokK (σ 2) t (kK σ t)) (nI (kK σ t)) (kNumV (σ 2) t (t - kK σ t) 0 (kK σ t))
def kOk (σ : gSt) (t : Nat) : Prop := σ 1 1 = nI t ∧ t ≤ 200 ∧ ∃ k, k ≤ t ∧ σ 1 7 = nI k
theorem kOk.nx {σ : gSt} {t : Nat} (h : kOk σ t) : σ 1 7 = nI (σ 1 7).toNatClampNeg ∧ (σ 1 7).toNatClampNeg ≤ t := by
  obtain ⟨-, h2, k, h3, h4⟩ := h
  rw [h4, nI_clamp (by omega)]
  exact ⟨rfl, h3⟩
theorem kK_le {σ : gSt} {t : Nat} (h : kOk σ t) : kK σ t ≤ t := (rSkip_le _ _ (by have := h.nx.2; omega)).2
theorem kTokE_le {tx : Nat → Int32} {t K : Nat} (hK : K ≤ t) : kTokE tx t K ≤ t := by
  have := rNumE_le (tx := tx) (t := t) (t - K) K (by omega)
  unfold kTokE
  split
  · split
    · omega
    · omega
  · omega
theorem kOk_adv {σ : gSt} {t : Nat} (h : kOk σ t) : kOk (kAdvS σ t) t := by
  refine ⟨?_, h.2.1, _, kTokE_le (tx := σ 2) (kK_le h), ?_⟩
  · rw [kAdvS, kPS_at]; simp; exact h.1
  · rw [kAdvS, kPS_at]; simp
set_option maxHeartbeats 4000000 in
set_option maxRecDepth 100000 in
theorem k_isDigit (l : Launch) (G : gG) (σ : gSt) (τ : Nat → Int64) (a0 : Int32) : gI l yX6_isDigit cX6_isDigit 1 (some .boolean) 0 0 G [.int a0] σ τ (bI (mIn a0 48 57)) σ τ := by
  refine gMet_of (by decide) (Nat.le_of_ble_eq_true rfl) ?_
  intro p e s m args below meth c C hr hlk ls hl hW
  have hx := C.1
  have hb := C.2.1
  have hl : lv_has ls 1 [(0, .int a0)] := hl
  refine lv_iload_n hx hb dX6_isDigit_0 rfl (lv_at hl 0 rfl) ?_
  refine lv_bipush (v := 48) hx hb dX6_isDigit_1 (by decide) ?_
  refine lv_icmp_lt (tgt := 16) hx hb dX6_isDigit_3 (by decide) (fun c_1 => ?_) (fun c_1 => ?_)
  · skip
    refine lv_iconst (v := 0) hx hb dX6_isDigit_16 (by decide) ?_
    exact g_zret C hr hlk hW dX6_isDigit_17 (rfl) (by simp [bI, mIn, c_1]) (rfl) (rfl)
  · skip
    refine lv_iload_n hx hb dX6_isDigit_6 rfl (lv_at hl 0 rfl) ?_
    refine lv_bipush (v := 57) hx hb dX6_isDigit_7 (by decide) ?_
    refine lv_icmp_gt (tgt := 16) hx hb dX6_isDigit_9 (by decide) (fun c_2 => ?_) (fun c_2 => ?_)
    · skip
      refine lv_iconst (v := 0) hx hb dX6_isDigit_16 (by decide) ?_
      exact g_zret C hr hlk hW dX6_isDigit_17 (rfl) (by simp [bI, mIn, c_1, c_2]) (rfl) (rfl)
    · skip
      refine lv_iconst (v := 1) hx hb dX6_isDigit_12 (by decide) ?_
      refine lv_goto (tgt := 17) hx hb dX6_isDigit_13 (by decide) ?_
      exact g_zret C hr hlk hW dX6_isDigit_17 (rfl) (by simp [bI, mIn, c_1, c_2]) (rfl) (rfl)
set_option maxHeartbeats 4000000 in
set_option maxRecDepth 100000 in
theorem k_isWord (l : Launch) (G : gG) (σ : gSt) (τ : Nat → Int64) (a0 : Int32) : gI l yX6_isWord cX6_isWord 1 (some .boolean) 0 0 G [.int a0] σ τ (bI (kWord a0)) σ τ := by
  refine gMet_of (by decide) (Nat.le_of_ble_eq_true rfl) ?_
  intro p e s m args below meth c C hr hlk ls hl hW
  have hx := C.1
  have hb := C.2.1
  have hl : lv_has ls 1 [(0, .int a0)] := hl
  refine lv_iload_n hx hb dX6_isWord_0 rfl (lv_at hl 0 rfl) ?_
  refine lv_bipush (v := 119) hx hb dX6_isWord_1 (by decide) ?_
  refine lv_icmp_eq (tgt := 36) hx hb dX6_isWord_3 (by decide) (fun c_1 => ?_) (fun c_1 => ?_)
  · skip
    refine lv_iconst (v := 1) hx hb dX6_isWord_36 (by decide) ?_
    refine lv_goto (tgt := 41) hx hb dX6_isWord_37 (by decide) ?_
    exact g_zret C hr hlk hW dX6_isWord_41 (rfl) (by simp [bI, kWord, c_1]) (rfl) (rfl)
  · skip
    refine lv_iload_n hx hb dX6_isWord_6 rfl (lv_at hl 0 rfl) ?_
    refine lv_bipush (v := 112) hx hb dX6_isWord_7 (by decide) ?_
    refine lv_icmp_eq (tgt := 36) hx hb dX6_isWord_9 (by decide) (fun c_2 => ?_) (fun c_2 => ?_)
    · skip
      refine lv_iconst (v := 1) hx hb dX6_isWord_36 (by decide) ?_
      refine lv_goto (tgt := 41) hx hb dX6_isWord_37 (by decide) ?_
      exact g_zret C hr hlk hW dX6_isWord_41 (rfl) (by simp [bI, kWord, c_1, c_2]) (rfl) (rfl)
    · skip
      refine lv_iload_n hx hb dX6_isWord_12 rfl (lv_at hl 0 rfl) ?_
      refine lv_bipush (v := 100) hx hb dX6_isWord_13 (by decide) ?_
      refine lv_icmp_eq (tgt := 36) hx hb dX6_isWord_15 (by decide) (fun c_3 => ?_) (fun c_3 => ?_)
      · skip
        refine lv_iconst (v := 1) hx hb dX6_isWord_36 (by decide) ?_
        refine lv_goto (tgt := 41) hx hb dX6_isWord_37 (by decide) ?_
        exact g_zret C hr hlk hW dX6_isWord_41 (rfl) (by simp [bI, kWord, c_1, c_2, c_3]) (rfl) (rfl)
      · skip
        refine lv_iload_n hx hb dX6_isWord_18 rfl (lv_at hl 0 rfl) ?_
        refine lv_bipush (v := 103) hx hb dX6_isWord_19 (by decide) ?_
        refine lv_icmp_eq (tgt := 36) hx hb dX6_isWord_21 (by decide) (fun c_4 => ?_) (fun c_4 => ?_)
        · skip
          refine lv_iconst (v := 1) hx hb dX6_isWord_36 (by decide) ?_
          refine lv_goto (tgt := 41) hx hb dX6_isWord_37 (by decide) ?_
          exact g_zret C hr hlk hW dX6_isWord_41 (rfl) (by simp [bI, kWord, c_1, c_2, c_3, c_4]) (rfl) (rfl)
        · skip
          refine lv_iload_n hx hb dX6_isWord_24 rfl (lv_at hl 0 rfl) ?_
          refine lv_bipush (v := 102) hx hb dX6_isWord_25 (by decide) ?_
          refine lv_icmp_eq (tgt := 36) hx hb dX6_isWord_27 (by decide) (fun c_5 => ?_) (fun c_5 => ?_)
          · skip
            refine lv_iconst (v := 1) hx hb dX6_isWord_36 (by decide) ?_
            refine lv_goto (tgt := 41) hx hb dX6_isWord_37 (by decide) ?_
            exact g_zret C hr hlk hW dX6_isWord_41 (rfl) (by simp [bI, kWord, c_1, c_2, c_3, c_4, c_5]) (rfl) (rfl)
          · skip
            refine lv_iload_n hx hb dX6_isWord_30 rfl (lv_at hl 0 rfl) ?_
            refine lv_bipush (v := 59) hx hb dX6_isWord_31 (by decide) ?_
            refine lv_icmp_ne (tgt := 40) hx hb dX6_isWord_33 (by decide) (fun c_6 => ?_) (fun c_6 => ?_)
            · skip
              refine lv_iconst (v := 0) hx hb dX6_isWord_40 (by decide) ?_
              exact g_zret C hr hlk hW dX6_isWord_41 (rfl) (by simp [bI, kWord, c_1, c_2, c_3, c_4, c_5, c_6]) (rfl) (rfl)
            · skip
              refine lv_iconst (v := 1) hx hb dX6_isWord_36 (by decide) ?_
              refine lv_goto (tgt := 41) hx hb dX6_isWord_37 (by decide) ?_
              exact g_zret C hr hlk hW dX6_isWord_41 (rfl) (by simp [bI, kWord, c_1, c_2, c_3, c_4, c_5, c_6]) (rfl) (rfl)
set_option maxHeartbeats 4000000 in
set_option maxRecDepth 100000 in
theorem k_addLetter (l : Launch) (G : gG) (σ : gSt) (τ : Nat → Int64) (a0 : Int32) (t : Nat) (ht : σ 1 1 = nI t) (ht2 : t ≤ 200) : gI l yX6_addLetter cX6_addLetter 2 (some .boolean) 0 0 G [.ref (gAd G 1), .int a0] σ τ (bI (decide (t < 200))) (if t < 200 then gu (gu σ 2 t a0) 1 1 (nI (t + 1)) else σ) τ := by
  refine gMet_of (by decide) (Nat.le_of_ble_eq_true rfl) ?_
  intro p e s m args below meth c C hr hlk ls hl hW
  have hx := C.1
  have hb := C.2.1
  have hl : lv_has ls 2 [(0, .ref (gAd G 1)), (1, .int a0)] := hl
  refine lv_aload_n hx hb dX6_addLetter_0 rfl (lv_at hl 0 rfl) ?_
  refine gf_X6_26 (v := nI t) C hW (by decide) rfl ht dX6_addLetter_1 ?_
  refine lv_sipush (v := 200) hx hb dX6_addLetter_4 (by decide) ?_
  refine lv_icmp_lt (tgt := 12) hx hb dX6_addLetter_7 (by decide) (fun c_1 => ?_) (fun c_1 => ?_)
  · skip
    replace c_1 : t < 200 := (nI_ltI (a := t) (b := 200) (by omega) (by omega)).mp c_1
    refine lv_aload_n hx hb dX6_addLetter_12 rfl (lv_at hl 0 rfl) ?_
    refine gf_X6_9 C hW (by decide) rfl dX6_addLetter_13 ?_
    refine lv_aload_n hx hb dX6_addLetter_16 rfl (lv_at hl 0 rfl) ?_
    refine gf_X6_26 (v := nI t) C hW (by decide) rfl ht dX6_addLetter_17 ?_
    refine lv_iload_n hx hb dX6_addLetter_20 rfl (lv_at hl 1 rfl) ?_
    refine g_ast t C hW (by decide) rfl rfl (show t < 200 by omega) (by decide) dX6_addLetter_21 (fun H locs hW => ?_)
    refine lv_aload_n hx hb dX6_addLetter_22 rfl (lv_at hl 0 rfl) ?_
    refine lv_dup hx hb dX6_addLetter_23 rfl ?_
    refine gf_X6_26 (v := nI t) C hW (by decide) rfl ht dX6_addLetter_24 ?_
    refine lv_iconst (v := 1) hx hb dX6_addLetter_27 (by decide) ?_
    refine lv_iadd hx hb dX6_addLetter_28 ?_
    refine gp_X6_26 C hW (by decide) rfl dX6_addLetter_29 (fun H locs hW => ?_)
    refine lv_iconst (v := 1) hx hb dX6_addLetter_32 (by decide) ?_
    exact g_zret C hr hlk hW dX6_addLetter_33 (rfl) (by rw [dpos c_1]; rfl) (by rw [if_pos c_1, nI_1]) (rfl)
  · skip
    replace c_1 : 200 ≤ t := Nat.not_lt.mp (mt (nI_ltI (a := t) (b := 200) (by omega) (by omega)).mpr c_1)
    refine lv_iconst (v := 0) hx hb dX6_addLetter_10 (by decide) ?_
    exact g_zret C hr hlk hW dX6_addLetter_11 (rfl) (by rw [decide_eq_false (by omega)]; rfl) (by rw [if_neg (by omega)]) (rfl)
set_option maxHeartbeats 4000000 in
set_option maxRecDepth 100000 in
theorem k_dropLetters (l : Launch) (G : gG) (σ : gSt) (τ : Nat → Int64) : gI l yX6_dropLetters cX6_dropLetters 2 (some .int) 0 0 G [.ref (gAd G 1)] σ τ (σ 1 1) (gu σ 1 1 0) τ := by
  refine gMet_of (by decide) (Nat.le_of_ble_eq_true rfl) ?_
  intro p e s m args below meth c C hr hlk ls hl hW
  have hx := C.1
  have hb := C.2.1
  have hl : lv_has ls 2 [(0, .ref (gAd G 1))] := hl
  refine lv_aload_n hx hb dX6_dropLetters_0 rfl (lv_at hl 0 rfl) ?_
  refine gf_X6_26 (v := σ 1 1) C hW (by decide) rfl rfl dX6_dropLetters_1 ?_
  refine lv_istore_n (lv' := [(1, .int (σ 1 1)), (0, .ref (gAd G 1))]) hx hb dX6_dropLetters_4 rfl hl (by decide) rfl (fun ls hl => ?_)
  refine lv_aload_n hx hb dX6_dropLetters_5 rfl (lv_at hl 1 rfl) ?_
  refine lv_iconst (v := 0) hx hb dX6_dropLetters_6 (by decide) ?_
  refine gp_X6_26 C hW (by decide) rfl dX6_dropLetters_7 (fun H locs hW => ?_)
  refine lv_iload_n hx hb dX6_dropLetters_10 rfl (lv_at hl 0 rfl) ?_
  exact g_iret C hr hlk hW dX6_dropLetters_11 (by simp [bI]) (rfl) (rfl)
set_option maxHeartbeats 4000000 in
set_option maxRecDepth 100000 in
theorem k_hasFault (l : Launch) (G : gG) (σ : gSt) (τ : Nat → Int64) : gI l yX6_hasFault cX6_hasFault 1 (some .boolean) 0 0 G [.ref (gAd G 1)] σ τ (bI (!decide (σ 1 3 = -9))) σ τ := by
  refine gMet_of (by decide) (Nat.le_of_ble_eq_true rfl) ?_
  intro p e s m args below meth c C hr hlk ls hl hW
  have hx := C.1
  have hb := C.2.1
  have hl : lv_has ls 1 [(0, .ref (gAd G 1))] := hl
  refine lv_aload_n hx hb dX6_hasFault_0 rfl (lv_at hl 0 rfl) ?_
  refine gf_X6_22 (v := σ 1 3) C hW (by decide) rfl rfl dX6_hasFault_1 ?_
  refine lv_bipush (v := (-9)) hx hb dX6_hasFault_4 (by decide) ?_
  refine lv_icmp_eq (tgt := 13) hx hb dX6_hasFault_6 (by decide) (fun c_1 => ?_) (fun c_1 => ?_)
  · skip
    refine lv_iconst (v := 0) hx hb dX6_hasFault_13 (by decide) ?_
    exact g_zret C hr hlk hW dX6_hasFault_14 (rfl) (by simp [bI, c_1]) (rfl) (rfl)
  · skip
    refine lv_iconst (v := 1) hx hb dX6_hasFault_9 (by decide) ?_
    refine lv_goto (tgt := 14) hx hb dX6_hasFault_10 (by decide) ?_
    exact g_zret C hr hlk hW dX6_hasFault_14 (rfl) (by simp [bI, c_1]) (rfl) (rfl)
set_option maxHeartbeats 4000000 in
set_option maxRecDepth 100000 in
theorem k_nextToken (l : Launch) (G : gG) (σ : gSt) (τ : Nat → Int64) (t : Nat) (hp : kOk σ t) : gV l yX6_nextToken cX6_nextToken 2 (none : Option Jvm.ClassFile.FieldType) 1 21 G [.ref (gAd G 1)] σ τ (kAdvS σ t) τ := by
  refine gMet_of (by decide) (Nat.le_of_ble_eq_true rfl) ?_
  intro p e s m args below meth c C hr hlk ls hl hW
  have hx := C.1
  have hb := C.2.1
  have hl : lv_has ls 2 [(0, .ref (gAd G 1))] := hl
  obtain ⟨hk4, hk5⟩ := hp.nx
  have ht := hp.1
  have ht2 := hp.2.1
  rw [← kPS_self σ, hk4] at hW
  have L0 : ∀ (n : Nat) (k_ : Nat) (H : Heap) (locs : List Loc) (ls : Array Slot), n + k_ = t → (rSkip (σ 2) t n k_ = rSkip (σ 2) t (t - (σ 1 7).toNatClampNeg) (σ 1 7).toNatClampNeg) → gW G s (kPS σ (nI k_) (σ 1 4) (σ 1 5) (σ 1 6)) τ H locs → lv_has ls 2 [(0, .ref (gAd G 1))] → W p l e (gRm 1 21) s m args below meth c H locs 0 0 (MQ below (gQv G (kAdvS σ t) τ) args s 0 0 (gA G)) (F0 m 0 ls []) := by
    intro n
    induction n with
    | zero =>
      intro k_ H locs ls hm hq hW hl
      refine lv_aload_n hx hb dX6_nextToken_0 rfl (lv_at hl 0 rfl) ?_
      refine gf_X6_39 (v := nI k_) C hW (by decide) rfl rfl dX6_nextToken_1 ?_
      refine lv_aload_n hx hb dX6_nextToken_4 rfl (lv_at hl 0 rfl) ?_
      refine gf_X6_26 (v := nI t) C hW (by decide) rfl ht dX6_nextToken_5 ?_
      refine lv_icmp_ge (tgt := 38) hx hb dX6_nextToken_8 (by decide) (fun _ => ?_) (fun zz => absurd (show nI t ≤ nI k_ from nI_le (by omega) (by omega)) zz)
      have hK : k_ = kK σ t := by rw [kK, ← hq]; rfl
      have hKt : k_ ≤ t := by omega
      refine lv_aload_n hx hb dX6_nextToken_38 rfl (lv_at hl 0 rfl) ?_
      refine lv_aload_n hx hb dX6_nextToken_39 rfl (lv_at hl 0 rfl) ?_
      refine gf_X6_39 (v := nI k_) C hW (by decide) rfl rfl dX6_nextToken_40 ?_
      refine gp_X6_114 C hW (by decide) rfl dX6_nextToken_43 (fun H locs hW => ?_)
      rw [kPS_5] at hW
      refine lv_aload_n hx hb dX6_nextToken_46 rfl (lv_at hl 0 rfl) ?_
      refine lv_iconst (v := 0) hx hb dX6_nextToken_47 (by decide) ?_
      refine gp_X6_111 C hW (by decide) rfl dX6_nextToken_48 (fun H locs hW => ?_)
      rw [kPS_6] at hW
      have L51 : ∀ (n_ : Nat) (e_ : Nat) (x_ : Int32) (H : Heap) (locs : List Loc) (ls : Array Slot), n_ + e_ = t → (rNumE (σ 2) t n_ e_ = rNumE (σ 2) t (t - k_) k_) → (kNumV (σ 2) t n_ x_ e_ = kNumV (σ 2) t (t - k_) 0 k_) → gW G s (kPS σ (nI e_) (σ 1 4) (nI k_) x_) τ H locs → lv_has ls 2 [(0, .ref (gAd G 1))] → W p l e (gRm 1 21) s m args below meth c H locs 0 0 (MQ below (gQv G (kAdvS σ t) τ) args s 0 0 (gA G)) (F0 m 51 ls []) := by
        intro n_
        induction n_ with
        | zero =>
          intro e_ x_ H locs ls hm hq1 hq2 hW hl
          refine lv_aload_n hx hb dX6_nextToken_51 rfl (lv_at hl 0 rfl) ?_
          refine gf_X6_39 (v := nI e_) C hW (by decide) rfl rfl dX6_nextToken_52 ?_
          refine lv_aload_n hx hb dX6_nextToken_55 rfl (lv_at hl 0 rfl) ?_
          refine gf_X6_26 (v := nI t) C hW (by decide) rfl ht dX6_nextToken_56 ?_
          refine lv_icmp_ge (tgt := 120) hx hb dX6_nextToken_59 (by decide) (fun _ => ?_) (fun zz => absurd (show nI t ≤ nI e_ from nI_le (by omega) (by omega)) zz)
          have hE : e_ = rNumE (σ 2) t (t - k_) k_ := by rw [← hq1]; rfl
          have hV : x_ = kNumV (σ 2) t (t - k_) 0 k_ := by rw [← hq2]; rfl
          have hke : k_ ≤ e_ := by rw [hE]; exact (rNumE_le _ _ (by omega)).1
          refine lv_aload_n hx hb dX6_nextToken_120 rfl (lv_at hl 0 rfl) ?_
          refine gf_X6_114 (v := nI k_) C hW (by decide) rfl rfl dX6_nextToken_121 ?_
          refine lv_aload_n hx hb dX6_nextToken_124 rfl (lv_at hl 0 rfl) ?_
          refine gf_X6_26 (v := nI t) C hW (by decide) rfl ht dX6_nextToken_125 ?_
          refine lv_icmp_lt (tgt := 139) hx hb dX6_nextToken_128 (by decide) (fun c_1 => ?_) (fun c_1 => ?_)
          · skip
            replace c_1 : k_ < t := (nI_ltI (a := k_) (b := t) (by omega) (by omega)).mp c_1
            refine lv_aload_n hx hb dX6_nextToken_139 rfl (lv_at hl 0 rfl) ?_
            refine gf_X6_39 (v := nI e_) C hW (by decide) rfl rfl dX6_nextToken_140 ?_
            refine lv_aload_n hx hb dX6_nextToken_143 rfl (lv_at hl 0 rfl) ?_
            refine gf_X6_114 (v := nI k_) C hW (by decide) rfl rfl dX6_nextToken_144 ?_
            refine lv_icmp_le (tgt := 211) hx hb dX6_nextToken_147 (by decide) (fun c_2 => ?_) (fun c_2 => ?_)
            · skip
              replace c_2 : e_ ≤ k_ := (nI_leI (a := e_) (b := k_) (by omega) (by omega)).mp c_2
              refine lv_aload_n hx hb dX6_nextToken_211 rfl (lv_at hl 0 rfl) ?_
              refine lv_aload_n hx hb dX6_nextToken_212 rfl (lv_at hl 0 rfl) ?_
              refine gf_X6_9 C hW (by decide) rfl dX6_nextToken_213 ?_
              refine lv_aload_n hx hb dX6_nextToken_216 rfl (lv_at hl 0 rfl) ?_
              refine gf_X6_114 (v := nI k_) C hW (by decide) rfl rfl dX6_nextToken_217 ?_
              refine g_ald (v := σ 2 k_) k_ C hW (by decide) rfl rfl (show k_ < 200 by omega) (by decide) rfl dX6_nextToken_220 ?_
              refine g_callsI (r := bI (kWord (σ 2 k_))) (σ' := kPS σ (nI e_) (σ 1 4) (nI k_) x_) (rest := [.ref (gAd G 1)]) (As := [.int (σ 2 k_)]) C hW ks_X6_126 (k_isWord l G (kPS σ (nI e_) (σ 1 4) (nI k_) x_) τ (σ 2 k_)) ⟨Nat.le_of_ble_eq_true rfl, Nat.le_of_ble_eq_true rfl⟩ ⟨Nat.le_refl _, Nat.le_refl _⟩ rfl hl.1 rfl (Nat.le_of_ble_eq_true rfl) dX6_nextToken_221 (fun H locs hW => ?_)
              refine lv_if_eq (tgt := 239) hx hb dX6_nextToken_224 (by decide) (fun c_3 => ?_) (fun c_3 => ?_)
              · skip
                replace c_3 : (kWord (σ 2 k_)) = false := bI_eq0.mp c_3
                refine lv_bipush (v := (-3)) hx hb dX6_nextToken_239 (by decide) ?_
                refine gp_X6_45 C hW (by decide) rfl dX6_nextToken_241 (fun H locs hW => ?_)
                rw [kPS_4] at hW
                refine lv_aload_n hx hb dX6_nextToken_244 rfl (lv_at hl 0 rfl) ?_
                refine lv_dup hx hb dX6_nextToken_245 rfl ?_
                refine gf_X6_39 (v := nI e_) C hW (by decide) rfl rfl dX6_nextToken_246 ?_
                refine lv_iconst (v := 1) hx hb dX6_nextToken_249 (by decide) ?_
                refine lv_iadd hx hb dX6_nextToken_250 ?_
                refine gp_X6_39 C hW (by decide) rfl dX6_nextToken_251 (fun H locs hW => ?_)
                rw [kPS_7] at hW
                exact g_vret C hr hlk hW dX6_nextToken_254 (by rw [kAdvS, ← hK, kTokE, kTokK, ← hE, ← hV, if_pos c_1, if_pos c_1, if_pos c_2, if_pos c_2, if_neg (bneg c_3), nI_1]) (rfl)
              · skip
                replace c_3 : (kWord (σ 2 k_)) = true := bI_ne0.mp c_3
                refine lv_aload_n hx hb dX6_nextToken_227 rfl (lv_at hl 0 rfl) ?_
                refine gf_X6_9 C hW (by decide) rfl dX6_nextToken_228 ?_
                refine lv_aload_n hx hb dX6_nextToken_231 rfl (lv_at hl 0 rfl) ?_
                refine gf_X6_114 (v := nI k_) C hW (by decide) rfl rfl dX6_nextToken_232 ?_
                refine g_ald (v := σ 2 k_) k_ C hW (by decide) rfl rfl (show k_ < 200 by omega) (by decide) rfl dX6_nextToken_235 ?_
                refine lv_goto (tgt := 241) hx hb dX6_nextToken_236 (by decide) ?_
                refine gp_X6_45 C hW (by decide) rfl dX6_nextToken_241 (fun H locs hW => ?_)
                rw [kPS_4] at hW
                refine lv_aload_n hx hb dX6_nextToken_244 rfl (lv_at hl 0 rfl) ?_
                refine lv_dup hx hb dX6_nextToken_245 rfl ?_
                refine gf_X6_39 (v := nI e_) C hW (by decide) rfl rfl dX6_nextToken_246 ?_
                refine lv_iconst (v := 1) hx hb dX6_nextToken_249 (by decide) ?_
                refine lv_iadd hx hb dX6_nextToken_250 ?_
                refine gp_X6_39 C hW (by decide) rfl dX6_nextToken_251 (fun H locs hW => ?_)
                rw [kPS_7] at hW
                exact g_vret C hr hlk hW dX6_nextToken_254 (by rw [kAdvS, ← hK, kTokE, kTokK, ← hE, ← hV, if_pos c_1, if_pos c_1, if_pos c_2, if_pos c_2, if_pos c_3, nI_1]) (rfl)
            · skip
              replace c_2 : k_ < e_ := Nat.not_le.mp (mt (nI_leI (a := e_) (b := k_) (by omega) (by omega)).mpr c_2)
              have K182 : ∀ (z : Bool), z = (decide (σ 2 k_ = 48) && !decide (e_ - k_ ≤ 1)) → ∀ (H : Heap) (locs : List Loc) (ls : Array Slot), gW G s (kPS σ (nI e_) (σ 1 4) (nI k_) x_) τ H locs → lv_has ls 2 [(0, .ref (gAd G 1))] → W p l e (gRm 1 21) s m args below meth c H locs 0 0 (MQ below (gQv G (kAdvS σ t) τ) args s 0 0 (gA G)) (F0 m 182 ls [.int (bI z)]) := by
                intro z hz H locs ls hW hl
                refine lv_istore_n (lv' := [(1, .int (bI z)), (0, .ref (gAd G 1))]) hx hb dX6_nextToken_182 rfl hl (by decide) rfl (fun ls hl => ?_)
                refine lv_aload_n hx hb dX6_nextToken_183 rfl (lv_at hl 1 rfl) ?_
                refine lv_iload_n hx hb dX6_nextToken_184 rfl (lv_at hl 0 rfl) ?_
                refine lv_if_ne (tgt := 198) hx hb dX6_nextToken_185 (by decide) (fun c_4 => ?_) (fun c_4 => ?_)
                · skip
                  replace c_4 : z = true := bI_ne0.mp c_4
                  refine lv_bipush (v := (-3)) hx hb dX6_nextToken_198 (by decide) ?_
                  refine lv_goto (tgt := 205) hx hb dX6_nextToken_200 (by decide) ?_
                  refine gp_X6_45 C hW (by decide) rfl dX6_nextToken_205 (fun H locs hW => ?_)
                  rw [kPS_4] at hW
                  refine lv_goto (tgt := 254) hx hb dX6_nextToken_208 (by decide) ?_
                  exact g_vret C hr hlk hW dX6_nextToken_254 (by rw [kAdvS, ← hK, kTokE, kTokK, ← hE, ← hV, if_pos c_1, if_pos c_1, if_neg (by omega), if_neg (by omega), ← hz, if_pos c_4]) (rfl)
                · skip
                  replace c_4 : z = false := bI_eq0.mp c_4
                  refine lv_aload_n hx hb dX6_nextToken_188 rfl (lv_at hl 1 rfl) ?_
                  refine gf_X6_111 (v := x_) C hW (by decide) rfl rfl dX6_nextToken_189 ?_
                  refine lv_sipush (v := 239) hx hb dX6_nextToken_192 (by decide) ?_
                  refine lv_icmp_le (tgt := 203) hx hb dX6_nextToken_195 (by decide) (fun c_5 => ?_) (fun c_5 => ?_)
                  · skip
                    refine lv_bipush (v := (-2)) hx hb dX6_nextToken_203 (by decide) ?_
                    refine gp_X6_45 C hW (by decide) rfl dX6_nextToken_205 (fun H locs hW => ?_)
                    rw [kPS_4] at hW
                    refine lv_goto (tgt := 254) hx hb dX6_nextToken_208 (by decide) ?_
                    exact g_vret C hr hlk hW dX6_nextToken_254 (by rw [kAdvS, ← hK, kTokE, kTokK, ← hE, ← hV, if_pos c_1, if_pos c_1, if_neg (by omega), if_neg (by omega), ← hz, if_neg (bneg c_4), if_pos c_5]) (rfl)
                  · skip
                    refine lv_bipush (v := (-3)) hx hb dX6_nextToken_198 (by decide) ?_
                    refine lv_goto (tgt := 205) hx hb dX6_nextToken_200 (by decide) ?_
                    refine gp_X6_45 C hW (by decide) rfl dX6_nextToken_205 (fun H locs hW => ?_)
                    rw [kPS_4] at hW
                    refine lv_goto (tgt := 254) hx hb dX6_nextToken_208 (by decide) ?_
                    exact g_vret C hr hlk hW dX6_nextToken_254 (by rw [kAdvS, ← hK, kTokE, kTokK, ← hE, ← hV, if_pos c_1, if_pos c_1, if_neg (by omega), if_neg (by omega), ← hz, if_neg (bneg c_4), if_neg c_5]) (rfl)
              refine lv_aload_n hx hb dX6_nextToken_150 rfl (lv_at hl 0 rfl) ?_
              refine gf_X6_9 C hW (by decide) rfl dX6_nextToken_151 ?_
              refine lv_aload_n hx hb dX6_nextToken_154 rfl (lv_at hl 0 rfl) ?_
              refine gf_X6_114 (v := nI k_) C hW (by decide) rfl rfl dX6_nextToken_155 ?_
              refine g_ald (v := σ 2 k_) k_ C hW (by decide) rfl rfl (show k_ < 200 by omega) (by decide) rfl dX6_nextToken_158 ?_
              refine lv_bipush (v := 48) hx hb dX6_nextToken_159 (by decide) ?_
              refine lv_icmp_ne (tgt := 181) hx hb dX6_nextToken_161 (by decide) (fun c_6 => ?_) (fun c_6 => ?_)
              · skip
                refine lv_iconst (v := 0) hx hb dX6_nextToken_181 (by decide) ?_
                exact K182 false (by first | (simp [c_6]; done) | (simp [c_6]; omega)) _ _ _ hW (lv_sub hl [0] rfl)
              · skip
                refine lv_aload_n hx hb dX6_nextToken_164 rfl (lv_at hl 0 rfl) ?_
                refine gf_X6_39 (v := nI e_) C hW (by decide) rfl rfl dX6_nextToken_165 ?_
                refine lv_aload_n hx hb dX6_nextToken_168 rfl (lv_at hl 0 rfl) ?_
                refine gf_X6_114 (v := nI k_) C hW (by decide) rfl rfl dX6_nextToken_169 ?_
                refine lv_isub hx hb dX6_nextToken_172 ?_
                refine lv_iconst (v := 1) hx hb dX6_nextToken_173 (by decide) ?_
                refine lv_icmp_le (tgt := 181) hx hb dX6_nextToken_174 (by decide) (fun c_7 => ?_) (fun c_7 => ?_)
                · skip
                  have qc_7 := c_7
                  rw [(gsub (rfl : nI e_ = nI e_) (rfl : nI k_ = nI k_) hke)] at qc_7
                  replace c_7 : (e_ - k_) ≤ 1 := (nI_leI (a := (e_ - k_)) (b := 1) (by omega) (by omega)).mp qc_7
                  refine lv_iconst (v := 0) hx hb dX6_nextToken_181 (by decide) ?_
                  exact K182 false (by first | (simp [c_6, c_7]; done) | (simp [c_6, c_7]; omega)) _ _ _ hW (lv_sub hl [0] rfl)
                · skip
                  have qc_7 := c_7
                  rw [(gsub (rfl : nI e_ = nI e_) (rfl : nI k_ = nI k_) hke)] at qc_7
                  replace c_7 : 1 < (e_ - k_) := Nat.not_le.mp (mt (nI_leI (a := (e_ - k_)) (b := 1) (by omega) (by omega)).mpr qc_7)
                  refine lv_iconst (v := 1) hx hb dX6_nextToken_177 (by decide) ?_
                  refine lv_goto (tgt := 182) hx hb dX6_nextToken_178 (by decide) ?_
                  exact K182 true (by first | (simp [c_6, c_7]; done) | (simp [c_6, c_7]; omega)) _ _ _ hW (lv_sub hl [0] rfl)
          · skip
            replace c_1 : t ≤ k_ := Nat.not_lt.mp (mt (nI_ltI (a := k_) (b := t) (by omega) (by omega)).mpr c_1)
            refine lv_aload_n hx hb dX6_nextToken_131 rfl (lv_at hl 0 rfl) ?_
            refine lv_iconst (v := (-1)) hx hb dX6_nextToken_132 (by decide) ?_
            refine gp_X6_45 C hW (by decide) rfl dX6_nextToken_133 (fun H locs hW => ?_)
            rw [kPS_4] at hW
            refine lv_goto (tgt := 254) hx hb dX6_nextToken_136 (by decide) ?_
            exact g_vret C hr hlk hW dX6_nextToken_254 (by rw [kAdvS, ← hK, kTokE, kTokK, ← hE, ← hV, if_neg (by omega), if_neg (by omega)]) (rfl)
        | succ n_ ih51 =>
          intro e_ x_ H locs ls hm hq1 hq2 hW hl
          refine lv_aload_n hx hb dX6_nextToken_51 rfl (lv_at hl 0 rfl) ?_
          refine gf_X6_39 (v := nI e_) C hW (by decide) rfl rfl dX6_nextToken_52 ?_
          refine lv_aload_n hx hb dX6_nextToken_55 rfl (lv_at hl 0 rfl) ?_
          refine gf_X6_26 (v := nI t) C hW (by decide) rfl ht dX6_nextToken_56 ?_
          refine lv_icmp_ge (tgt := 120) hx hb dX6_nextToken_59 (by decide) (fun zz => absurd zz (show ¬ nI t ≤ nI e_ from nI_ge (by omega) (by omega))) (fun _ => ?_)
          refine lv_aload_n hx hb dX6_nextToken_62 rfl (lv_at hl 0 rfl) ?_
          refine gf_X6_9 C hW (by decide) rfl dX6_nextToken_63 ?_
          refine lv_aload_n hx hb dX6_nextToken_66 rfl (lv_at hl 0 rfl) ?_
          refine gf_X6_39 (v := nI e_) C hW (by decide) rfl rfl dX6_nextToken_67 ?_
          refine g_ald (v := σ 2 e_) e_ C hW (by decide) rfl rfl (show e_ < 200 by omega) (by decide) rfl dX6_nextToken_70 ?_
          refine g_callsI (r := bI (mIn (σ 2 e_) 48 57)) (σ' := kPS σ (nI e_) (σ 1 4) (nI k_) x_) (rest := []) (As := [.int (σ 2 e_)]) C hW ks_X6_117 (k_isDigit l G (kPS σ (nI e_) (σ 1 4) (nI k_) x_) τ (σ 2 e_)) ⟨Nat.le_of_ble_eq_true rfl, Nat.le_of_ble_eq_true rfl⟩ ⟨Nat.le_refl _, Nat.le_refl _⟩ rfl hl.1 rfl (Nat.le_of_ble_eq_true rfl) dX6_nextToken_71 (fun H locs hW => ?_)
          refine lv_if_eq (tgt := 120) hx hb dX6_nextToken_74 (by decide) (fun c_8 => ?_) (fun c_8 => ?_)
          · skip
            replace c_8 : (mIn (σ 2 e_) 48 57) = false := bI_eq0.mp c_8
            have hE : e_ = rNumE (σ 2) t (t - k_) k_ := by rw [← hq1]; rw [rNumE, if_neg (by rw [rLet_lt (by omega)]; exact bneg c_8)]
            have hV : x_ = kNumV (σ 2) t (t - k_) 0 k_ := by rw [← hq2]; rw [kNumV, if_neg (by rw [rLet_lt (by omega)]; exact bneg c_8)]
            have hke : k_ ≤ e_ := by rw [hE]; exact (rNumE_le _ _ (by omega)).1
            refine lv_aload_n hx hb dX6_nextToken_120 rfl (lv_at hl 0 rfl) ?_
            refine gf_X6_114 (v := nI k_) C hW (by decide) rfl rfl dX6_nextToken_121 ?_
            refine lv_aload_n hx hb dX6_nextToken_124 rfl (lv_at hl 0 rfl) ?_
            refine gf_X6_26 (v := nI t) C hW (by decide) rfl ht dX6_nextToken_125 ?_
            refine lv_icmp_lt (tgt := 139) hx hb dX6_nextToken_128 (by decide) (fun c_9 => ?_) (fun c_9 => ?_)
            · skip
              replace c_9 : k_ < t := (nI_ltI (a := k_) (b := t) (by omega) (by omega)).mp c_9
              refine lv_aload_n hx hb dX6_nextToken_139 rfl (lv_at hl 0 rfl) ?_
              refine gf_X6_39 (v := nI e_) C hW (by decide) rfl rfl dX6_nextToken_140 ?_
              refine lv_aload_n hx hb dX6_nextToken_143 rfl (lv_at hl 0 rfl) ?_
              refine gf_X6_114 (v := nI k_) C hW (by decide) rfl rfl dX6_nextToken_144 ?_
              refine lv_icmp_le (tgt := 211) hx hb dX6_nextToken_147 (by decide) (fun c_10 => ?_) (fun c_10 => ?_)
              · skip
                replace c_10 : e_ ≤ k_ := (nI_leI (a := e_) (b := k_) (by omega) (by omega)).mp c_10
                refine lv_aload_n hx hb dX6_nextToken_211 rfl (lv_at hl 0 rfl) ?_
                refine lv_aload_n hx hb dX6_nextToken_212 rfl (lv_at hl 0 rfl) ?_
                refine gf_X6_9 C hW (by decide) rfl dX6_nextToken_213 ?_
                refine lv_aload_n hx hb dX6_nextToken_216 rfl (lv_at hl 0 rfl) ?_
                refine gf_X6_114 (v := nI k_) C hW (by decide) rfl rfl dX6_nextToken_217 ?_
                refine g_ald (v := σ 2 k_) k_ C hW (by decide) rfl rfl (show k_ < 200 by omega) (by decide) rfl dX6_nextToken_220 ?_
                refine g_callsI (r := bI (kWord (σ 2 k_))) (σ' := kPS σ (nI e_) (σ 1 4) (nI k_) x_) (rest := [.ref (gAd G 1)]) (As := [.int (σ 2 k_)]) C hW ks_X6_126 (k_isWord l G (kPS σ (nI e_) (σ 1 4) (nI k_) x_) τ (σ 2 k_)) ⟨Nat.le_of_ble_eq_true rfl, Nat.le_of_ble_eq_true rfl⟩ ⟨Nat.le_refl _, Nat.le_refl _⟩ rfl hl.1 rfl (Nat.le_of_ble_eq_true rfl) dX6_nextToken_221 (fun H locs hW => ?_)
                refine lv_if_eq (tgt := 239) hx hb dX6_nextToken_224 (by decide) (fun c_11 => ?_) (fun c_11 => ?_)
                · skip
                  replace c_11 : (kWord (σ 2 k_)) = false := bI_eq0.mp c_11
                  refine lv_bipush (v := (-3)) hx hb dX6_nextToken_239 (by decide) ?_
                  refine gp_X6_45 C hW (by decide) rfl dX6_nextToken_241 (fun H locs hW => ?_)
                  rw [kPS_4] at hW
                  refine lv_aload_n hx hb dX6_nextToken_244 rfl (lv_at hl 0 rfl) ?_
                  refine lv_dup hx hb dX6_nextToken_245 rfl ?_
                  refine gf_X6_39 (v := nI e_) C hW (by decide) rfl rfl dX6_nextToken_246 ?_
                  refine lv_iconst (v := 1) hx hb dX6_nextToken_249 (by decide) ?_
                  refine lv_iadd hx hb dX6_nextToken_250 ?_
                  refine gp_X6_39 C hW (by decide) rfl dX6_nextToken_251 (fun H locs hW => ?_)
                  rw [kPS_7] at hW
                  exact g_vret C hr hlk hW dX6_nextToken_254 (by rw [kAdvS, ← hK, kTokE, kTokK, ← hE, ← hV, if_pos c_9, if_pos c_9, if_pos c_10, if_pos c_10, if_neg (bneg c_11), nI_1]) (rfl)
                · skip
                  replace c_11 : (kWord (σ 2 k_)) = true := bI_ne0.mp c_11
                  refine lv_aload_n hx hb dX6_nextToken_227 rfl (lv_at hl 0 rfl) ?_
                  refine gf_X6_9 C hW (by decide) rfl dX6_nextToken_228 ?_
                  refine lv_aload_n hx hb dX6_nextToken_231 rfl (lv_at hl 0 rfl) ?_
                  refine gf_X6_114 (v := nI k_) C hW (by decide) rfl rfl dX6_nextToken_232 ?_
                  refine g_ald (v := σ 2 k_) k_ C hW (by decide) rfl rfl (show k_ < 200 by omega) (by decide) rfl dX6_nextToken_235 ?_
                  refine lv_goto (tgt := 241) hx hb dX6_nextToken_236 (by decide) ?_
                  refine gp_X6_45 C hW (by decide) rfl dX6_nextToken_241 (fun H locs hW => ?_)
                  rw [kPS_4] at hW
                  refine lv_aload_n hx hb dX6_nextToken_244 rfl (lv_at hl 0 rfl) ?_
                  refine lv_dup hx hb dX6_nextToken_245 rfl ?_
                  refine gf_X6_39 (v := nI e_) C hW (by decide) rfl rfl dX6_nextToken_246 ?_
                  refine lv_iconst (v := 1) hx hb dX6_nextToken_249 (by decide) ?_
                  refine lv_iadd hx hb dX6_nextToken_250 ?_
                  refine gp_X6_39 C hW (by decide) rfl dX6_nextToken_251 (fun H locs hW => ?_)
                  rw [kPS_7] at hW
                  exact g_vret C hr hlk hW dX6_nextToken_254 (by rw [kAdvS, ← hK, kTokE, kTokK, ← hE, ← hV, if_pos c_9, if_pos c_9, if_pos c_10, if_pos c_10, if_pos c_11, nI_1]) (rfl)
              · skip
                replace c_10 : k_ < e_ := Nat.not_le.mp (mt (nI_leI (a := e_) (b := k_) (by omega) (by omega)).mpr c_10)
                have K182 : ∀ (z : Bool), z = (decide (σ 2 k_ = 48) && !decide (e_ - k_ ≤ 1)) → ∀ (H : Heap) (locs : List Loc) (ls : Array Slot), gW G s (kPS σ (nI e_) (σ 1 4) (nI k_) x_) τ H locs → lv_has ls 2 [(0, .ref (gAd G 1))] → W p l e (gRm 1 21) s m args below meth c H locs 0 0 (MQ below (gQv G (kAdvS σ t) τ) args s 0 0 (gA G)) (F0 m 182 ls [.int (bI z)]) := by
                  intro z hz H locs ls hW hl
                  refine lv_istore_n (lv' := [(1, .int (bI z)), (0, .ref (gAd G 1))]) hx hb dX6_nextToken_182 rfl hl (by decide) rfl (fun ls hl => ?_)
                  refine lv_aload_n hx hb dX6_nextToken_183 rfl (lv_at hl 1 rfl) ?_
                  refine lv_iload_n hx hb dX6_nextToken_184 rfl (lv_at hl 0 rfl) ?_
                  refine lv_if_ne (tgt := 198) hx hb dX6_nextToken_185 (by decide) (fun c_12 => ?_) (fun c_12 => ?_)
                  · skip
                    replace c_12 : z = true := bI_ne0.mp c_12
                    refine lv_bipush (v := (-3)) hx hb dX6_nextToken_198 (by decide) ?_
                    refine lv_goto (tgt := 205) hx hb dX6_nextToken_200 (by decide) ?_
                    refine gp_X6_45 C hW (by decide) rfl dX6_nextToken_205 (fun H locs hW => ?_)
                    rw [kPS_4] at hW
                    refine lv_goto (tgt := 254) hx hb dX6_nextToken_208 (by decide) ?_
                    exact g_vret C hr hlk hW dX6_nextToken_254 (by rw [kAdvS, ← hK, kTokE, kTokK, ← hE, ← hV, if_pos c_9, if_pos c_9, if_neg (by omega), if_neg (by omega), ← hz, if_pos c_12]) (rfl)
                  · skip
                    replace c_12 : z = false := bI_eq0.mp c_12
                    refine lv_aload_n hx hb dX6_nextToken_188 rfl (lv_at hl 1 rfl) ?_
                    refine gf_X6_111 (v := x_) C hW (by decide) rfl rfl dX6_nextToken_189 ?_
                    refine lv_sipush (v := 239) hx hb dX6_nextToken_192 (by decide) ?_
                    refine lv_icmp_le (tgt := 203) hx hb dX6_nextToken_195 (by decide) (fun c_13 => ?_) (fun c_13 => ?_)
                    · skip
                      refine lv_bipush (v := (-2)) hx hb dX6_nextToken_203 (by decide) ?_
                      refine gp_X6_45 C hW (by decide) rfl dX6_nextToken_205 (fun H locs hW => ?_)
                      rw [kPS_4] at hW
                      refine lv_goto (tgt := 254) hx hb dX6_nextToken_208 (by decide) ?_
                      exact g_vret C hr hlk hW dX6_nextToken_254 (by rw [kAdvS, ← hK, kTokE, kTokK, ← hE, ← hV, if_pos c_9, if_pos c_9, if_neg (by omega), if_neg (by omega), ← hz, if_neg (bneg c_12), if_pos c_13]) (rfl)
                    · skip
                      refine lv_bipush (v := (-3)) hx hb dX6_nextToken_198 (by decide) ?_
                      refine lv_goto (tgt := 205) hx hb dX6_nextToken_200 (by decide) ?_
                      refine gp_X6_45 C hW (by decide) rfl dX6_nextToken_205 (fun H locs hW => ?_)
                      rw [kPS_4] at hW
                      refine lv_goto (tgt := 254) hx hb dX6_nextToken_208 (by decide) ?_
                      exact g_vret C hr hlk hW dX6_nextToken_254 (by rw [kAdvS, ← hK, kTokE, kTokK, ← hE, ← hV, if_pos c_9, if_pos c_9, if_neg (by omega), if_neg (by omega), ← hz, if_neg (bneg c_12), if_neg c_13]) (rfl)
                refine lv_aload_n hx hb dX6_nextToken_150 rfl (lv_at hl 0 rfl) ?_
                refine gf_X6_9 C hW (by decide) rfl dX6_nextToken_151 ?_
                refine lv_aload_n hx hb dX6_nextToken_154 rfl (lv_at hl 0 rfl) ?_
                refine gf_X6_114 (v := nI k_) C hW (by decide) rfl rfl dX6_nextToken_155 ?_
                refine g_ald (v := σ 2 k_) k_ C hW (by decide) rfl rfl (show k_ < 200 by omega) (by decide) rfl dX6_nextToken_158 ?_
                refine lv_bipush (v := 48) hx hb dX6_nextToken_159 (by decide) ?_
                refine lv_icmp_ne (tgt := 181) hx hb dX6_nextToken_161 (by decide) (fun c_14 => ?_) (fun c_14 => ?_)
                · skip
                  refine lv_iconst (v := 0) hx hb dX6_nextToken_181 (by decide) ?_
                  exact K182 false (by first | (simp [c_14]; done) | (simp [c_14]; omega)) _ _ _ hW (lv_sub hl [0] rfl)
                · skip
                  refine lv_aload_n hx hb dX6_nextToken_164 rfl (lv_at hl 0 rfl) ?_
                  refine gf_X6_39 (v := nI e_) C hW (by decide) rfl rfl dX6_nextToken_165 ?_
                  refine lv_aload_n hx hb dX6_nextToken_168 rfl (lv_at hl 0 rfl) ?_
                  refine gf_X6_114 (v := nI k_) C hW (by decide) rfl rfl dX6_nextToken_169 ?_
                  refine lv_isub hx hb dX6_nextToken_172 ?_
                  refine lv_iconst (v := 1) hx hb dX6_nextToken_173 (by decide) ?_
                  refine lv_icmp_le (tgt := 181) hx hb dX6_nextToken_174 (by decide) (fun c_15 => ?_) (fun c_15 => ?_)
                  · skip
                    have qc_15 := c_15
                    rw [(gsub (rfl : nI e_ = nI e_) (rfl : nI k_ = nI k_) hke)] at qc_15
                    replace c_15 : (e_ - k_) ≤ 1 := (nI_leI (a := (e_ - k_)) (b := 1) (by omega) (by omega)).mp qc_15
                    refine lv_iconst (v := 0) hx hb dX6_nextToken_181 (by decide) ?_
                    exact K182 false (by first | (simp [c_14, c_15]; done) | (simp [c_14, c_15]; omega)) _ _ _ hW (lv_sub hl [0] rfl)
                  · skip
                    have qc_15 := c_15
                    rw [(gsub (rfl : nI e_ = nI e_) (rfl : nI k_ = nI k_) hke)] at qc_15
                    replace c_15 : 1 < (e_ - k_) := Nat.not_le.mp (mt (nI_leI (a := (e_ - k_)) (b := 1) (by omega) (by omega)).mpr qc_15)
                    refine lv_iconst (v := 1) hx hb dX6_nextToken_177 (by decide) ?_
                    refine lv_goto (tgt := 182) hx hb dX6_nextToken_178 (by decide) ?_
                    exact K182 true (by first | (simp [c_14, c_15]; done) | (simp [c_14, c_15]; omega)) _ _ _ hW (lv_sub hl [0] rfl)
            · skip
              replace c_9 : t ≤ k_ := Nat.not_lt.mp (mt (nI_ltI (a := k_) (b := t) (by omega) (by omega)).mpr c_9)
              refine lv_aload_n hx hb dX6_nextToken_131 rfl (lv_at hl 0 rfl) ?_
              refine lv_iconst (v := (-1)) hx hb dX6_nextToken_132 (by decide) ?_
              refine gp_X6_45 C hW (by decide) rfl dX6_nextToken_133 (fun H locs hW => ?_)
              rw [kPS_4] at hW
              refine lv_goto (tgt := 254) hx hb dX6_nextToken_136 (by decide) ?_
              exact g_vret C hr hlk hW dX6_nextToken_254 (by rw [kAdvS, ← hK, kTokE, kTokK, ← hE, ← hV, if_neg (by omega), if_neg (by omega)]) (rfl)
          · skip
            replace c_8 : (mIn (σ 2 e_) 48 57) = true := bI_ne0.mp c_8
            refine lv_aload_n hx hb dX6_nextToken_77 rfl (lv_at hl 0 rfl) ?_
            refine lv_sipush (v := 240) hx hb dX6_nextToken_78 (by decide) ?_
            refine lv_aload_n hx hb dX6_nextToken_81 rfl (lv_at hl 0 rfl) ?_
            refine gf_X6_111 (v := x_) C hW (by decide) rfl rfl dX6_nextToken_82 ?_
            refine lv_bipush (v := 10) hx hb dX6_nextToken_85 (by decide) ?_
            refine lv_imul hx hb dX6_nextToken_87 ?_
            refine lv_aload_n hx hb dX6_nextToken_88 rfl (lv_at hl 0 rfl) ?_
            refine gf_X6_9 C hW (by decide) rfl dX6_nextToken_89 ?_
            refine lv_aload_n hx hb dX6_nextToken_92 rfl (lv_at hl 0 rfl) ?_
            refine gf_X6_39 (v := nI e_) C hW (by decide) rfl rfl dX6_nextToken_93 ?_
            refine g_ald (v := σ 2 e_) e_ C hW (by decide) rfl rfl (show e_ < 200 by omega) (by decide) rfl dX6_nextToken_96 ?_
            refine lv_iadd hx hb dX6_nextToken_97 ?_
            refine lv_bipush (v := 48) hx hb dX6_nextToken_98 (by decide) ?_
            refine lv_isub hx hb dX6_nextToken_100 ?_
            refine g_min C hl.1 kml_X6_121 (Nat.le_of_ble_eq_true rfl) (Nat.le_of_ble_eq_true rfl) (Nat.le_refl _) (Nat.le_refl _) dX6_nextToken_101 ?_
            refine gp_X6_111 C hW (by decide) rfl dX6_nextToken_104 (fun H locs hW => ?_)
            rw [kPS_6] at hW
            refine lv_aload_n hx hb dX6_nextToken_107 rfl (lv_at hl 0 rfl) ?_
            refine lv_dup hx hb dX6_nextToken_108 rfl ?_
            refine gf_X6_39 (v := nI e_) C hW (by decide) rfl rfl dX6_nextToken_109 ?_
            refine lv_iconst (v := 1) hx hb dX6_nextToken_112 (by decide) ?_
            refine lv_iadd hx hb dX6_nextToken_113 ?_
            refine gp_X6_39 C hW (by decide) rfl dX6_nextToken_114 (fun H locs hW => ?_)
            rw [kPS_7] at hW
            refine lv_goto (tgt := 51) hx hb dX6_nextToken_117 (by decide) ?_
            exact ih51 (e_ + 1) (if ((x_ * 10) + (σ 2 e_)) - 48 < 240 then ((x_ * 10) + (σ 2 e_)) - 48 else 240) _ _ _ (by omega) (by rw [← hq1, rNumE, if_pos (by rw [rLet_lt (by omega)]; exact c_8)]) (by rw [← hq2, kNumV, rLet_lt (by omega), if_pos c_8]) (by rw [nI_1] at hW; exact hW) (lv_sub hl [0] rfl)
      exact L51 (t - k_) k_ 0 _ _ _ (by omega) rfl rfl hW (lv_sub hl [0] rfl)
    | succ n ih0 =>
      intro k_ H locs ls hm hq hW hl
      refine lv_aload_n hx hb dX6_nextToken_0 rfl (lv_at hl 0 rfl) ?_
      refine gf_X6_39 (v := nI k_) C hW (by decide) rfl rfl dX6_nextToken_1 ?_
      refine lv_aload_n hx hb dX6_nextToken_4 rfl (lv_at hl 0 rfl) ?_
      refine gf_X6_26 (v := nI t) C hW (by decide) rfl ht dX6_nextToken_5 ?_
      refine lv_icmp_ge (tgt := 38) hx hb dX6_nextToken_8 (by decide) (fun zz => absurd zz (show ¬ nI t ≤ nI k_ from nI_ge (by omega) (by omega))) (fun _ => ?_)
      refine lv_aload_n hx hb dX6_nextToken_11 rfl (lv_at hl 0 rfl) ?_
      refine gf_X6_9 C hW (by decide) rfl dX6_nextToken_12 ?_
      refine lv_aload_n hx hb dX6_nextToken_15 rfl (lv_at hl 0 rfl) ?_
      refine gf_X6_39 (v := nI k_) C hW (by decide) rfl rfl dX6_nextToken_16 ?_
      refine g_ald (v := σ 2 k_) k_ C hW (by decide) rfl rfl (show k_ < 200 by omega) (by decide) rfl dX6_nextToken_19 ?_
      refine lv_bipush (v := 32) hx hb dX6_nextToken_20 (by decide) ?_
      refine lv_icmp_ne (tgt := 38) hx hb dX6_nextToken_22 (by decide) (fun c_16 => ?_) (fun c_16 => ?_)
      · skip
        have hK : k_ = kK σ t := by rw [kK, ← hq]; rw [rSkip, if_neg (by rw [rLet_lt (by omega)]; exact c_16)]
        have hKt : k_ ≤ t := by omega
        refine lv_aload_n hx hb dX6_nextToken_38 rfl (lv_at hl 0 rfl) ?_
        refine lv_aload_n hx hb dX6_nextToken_39 rfl (lv_at hl 0 rfl) ?_
        refine gf_X6_39 (v := nI k_) C hW (by decide) rfl rfl dX6_nextToken_40 ?_
        refine gp_X6_114 C hW (by decide) rfl dX6_nextToken_43 (fun H locs hW => ?_)
        rw [kPS_5] at hW
        refine lv_aload_n hx hb dX6_nextToken_46 rfl (lv_at hl 0 rfl) ?_
        refine lv_iconst (v := 0) hx hb dX6_nextToken_47 (by decide) ?_
        refine gp_X6_111 C hW (by decide) rfl dX6_nextToken_48 (fun H locs hW => ?_)
        rw [kPS_6] at hW
        have L51 : ∀ (n_ : Nat) (e_ : Nat) (x_ : Int32) (H : Heap) (locs : List Loc) (ls : Array Slot), n_ + e_ = t → (rNumE (σ 2) t n_ e_ = rNumE (σ 2) t (t - k_) k_) → (kNumV (σ 2) t n_ x_ e_ = kNumV (σ 2) t (t - k_) 0 k_) → gW G s (kPS σ (nI e_) (σ 1 4) (nI k_) x_) τ H locs → lv_has ls 2 [(0, .ref (gAd G 1))] → W p l e (gRm 1 21) s m args below meth c H locs 0 0 (MQ below (gQv G (kAdvS σ t) τ) args s 0 0 (gA G)) (F0 m 51 ls []) := by
          intro n_
          induction n_ with
          | zero =>
            intro e_ x_ H locs ls hm hq1 hq2 hW hl
            refine lv_aload_n hx hb dX6_nextToken_51 rfl (lv_at hl 0 rfl) ?_
            refine gf_X6_39 (v := nI e_) C hW (by decide) rfl rfl dX6_nextToken_52 ?_
            refine lv_aload_n hx hb dX6_nextToken_55 rfl (lv_at hl 0 rfl) ?_
            refine gf_X6_26 (v := nI t) C hW (by decide) rfl ht dX6_nextToken_56 ?_
            refine lv_icmp_ge (tgt := 120) hx hb dX6_nextToken_59 (by decide) (fun _ => ?_) (fun zz => absurd (show nI t ≤ nI e_ from nI_le (by omega) (by omega)) zz)
            have hE : e_ = rNumE (σ 2) t (t - k_) k_ := by rw [← hq1]; rfl
            have hV : x_ = kNumV (σ 2) t (t - k_) 0 k_ := by rw [← hq2]; rfl
            have hke : k_ ≤ e_ := by rw [hE]; exact (rNumE_le _ _ (by omega)).1
            refine lv_aload_n hx hb dX6_nextToken_120 rfl (lv_at hl 0 rfl) ?_
            refine gf_X6_114 (v := nI k_) C hW (by decide) rfl rfl dX6_nextToken_121 ?_
            refine lv_aload_n hx hb dX6_nextToken_124 rfl (lv_at hl 0 rfl) ?_
            refine gf_X6_26 (v := nI t) C hW (by decide) rfl ht dX6_nextToken_125 ?_
            refine lv_icmp_lt (tgt := 139) hx hb dX6_nextToken_128 (by decide) (fun c_17 => ?_) (fun c_17 => ?_)
            · skip
              replace c_17 : k_ < t := (nI_ltI (a := k_) (b := t) (by omega) (by omega)).mp c_17
              refine lv_aload_n hx hb dX6_nextToken_139 rfl (lv_at hl 0 rfl) ?_
              refine gf_X6_39 (v := nI e_) C hW (by decide) rfl rfl dX6_nextToken_140 ?_
              refine lv_aload_n hx hb dX6_nextToken_143 rfl (lv_at hl 0 rfl) ?_
              refine gf_X6_114 (v := nI k_) C hW (by decide) rfl rfl dX6_nextToken_144 ?_
              refine lv_icmp_le (tgt := 211) hx hb dX6_nextToken_147 (by decide) (fun c_18 => ?_) (fun c_18 => ?_)
              · skip
                replace c_18 : e_ ≤ k_ := (nI_leI (a := e_) (b := k_) (by omega) (by omega)).mp c_18
                refine lv_aload_n hx hb dX6_nextToken_211 rfl (lv_at hl 0 rfl) ?_
                refine lv_aload_n hx hb dX6_nextToken_212 rfl (lv_at hl 0 rfl) ?_
                refine gf_X6_9 C hW (by decide) rfl dX6_nextToken_213 ?_
                refine lv_aload_n hx hb dX6_nextToken_216 rfl (lv_at hl 0 rfl) ?_
                refine gf_X6_114 (v := nI k_) C hW (by decide) rfl rfl dX6_nextToken_217 ?_
                refine g_ald (v := σ 2 k_) k_ C hW (by decide) rfl rfl (show k_ < 200 by omega) (by decide) rfl dX6_nextToken_220 ?_
                refine g_callsI (r := bI (kWord (σ 2 k_))) (σ' := kPS σ (nI e_) (σ 1 4) (nI k_) x_) (rest := [.ref (gAd G 1)]) (As := [.int (σ 2 k_)]) C hW ks_X6_126 (k_isWord l G (kPS σ (nI e_) (σ 1 4) (nI k_) x_) τ (σ 2 k_)) ⟨Nat.le_of_ble_eq_true rfl, Nat.le_of_ble_eq_true rfl⟩ ⟨Nat.le_refl _, Nat.le_refl _⟩ rfl hl.1 rfl (Nat.le_of_ble_eq_true rfl) dX6_nextToken_221 (fun H locs hW => ?_)
                refine lv_if_eq (tgt := 239) hx hb dX6_nextToken_224 (by decide) (fun c_19 => ?_) (fun c_19 => ?_)
                · skip
                  replace c_19 : (kWord (σ 2 k_)) = false := bI_eq0.mp c_19
                  refine lv_bipush (v := (-3)) hx hb dX6_nextToken_239 (by decide) ?_
                  refine gp_X6_45 C hW (by decide) rfl dX6_nextToken_241 (fun H locs hW => ?_)
                  rw [kPS_4] at hW
                  refine lv_aload_n hx hb dX6_nextToken_244 rfl (lv_at hl 0 rfl) ?_
                  refine lv_dup hx hb dX6_nextToken_245 rfl ?_
                  refine gf_X6_39 (v := nI e_) C hW (by decide) rfl rfl dX6_nextToken_246 ?_
                  refine lv_iconst (v := 1) hx hb dX6_nextToken_249 (by decide) ?_
                  refine lv_iadd hx hb dX6_nextToken_250 ?_
                  refine gp_X6_39 C hW (by decide) rfl dX6_nextToken_251 (fun H locs hW => ?_)
                  rw [kPS_7] at hW
                  exact g_vret C hr hlk hW dX6_nextToken_254 (by rw [kAdvS, ← hK, kTokE, kTokK, ← hE, ← hV, if_pos c_17, if_pos c_17, if_pos c_18, if_pos c_18, if_neg (bneg c_19), nI_1]) (rfl)
                · skip
                  replace c_19 : (kWord (σ 2 k_)) = true := bI_ne0.mp c_19
                  refine lv_aload_n hx hb dX6_nextToken_227 rfl (lv_at hl 0 rfl) ?_
                  refine gf_X6_9 C hW (by decide) rfl dX6_nextToken_228 ?_
                  refine lv_aload_n hx hb dX6_nextToken_231 rfl (lv_at hl 0 rfl) ?_
                  refine gf_X6_114 (v := nI k_) C hW (by decide) rfl rfl dX6_nextToken_232 ?_
                  refine g_ald (v := σ 2 k_) k_ C hW (by decide) rfl rfl (show k_ < 200 by omega) (by decide) rfl dX6_nextToken_235 ?_
                  refine lv_goto (tgt := 241) hx hb dX6_nextToken_236 (by decide) ?_
                  refine gp_X6_45 C hW (by decide) rfl dX6_nextToken_241 (fun H locs hW => ?_)
                  rw [kPS_4] at hW
                  refine lv_aload_n hx hb dX6_nextToken_244 rfl (lv_at hl 0 rfl) ?_
                  refine lv_dup hx hb dX6_nextToken_245 rfl ?_
                  refine gf_X6_39 (v := nI e_) C hW (by decide) rfl rfl dX6_nextToken_246 ?_
                  refine lv_iconst (v := 1) hx hb dX6_nextToken_249 (by decide) ?_
                  refine lv_iadd hx hb dX6_nextToken_250 ?_
                  refine gp_X6_39 C hW (by decide) rfl dX6_nextToken_251 (fun H locs hW => ?_)
                  rw [kPS_7] at hW
                  exact g_vret C hr hlk hW dX6_nextToken_254 (by rw [kAdvS, ← hK, kTokE, kTokK, ← hE, ← hV, if_pos c_17, if_pos c_17, if_pos c_18, if_pos c_18, if_pos c_19, nI_1]) (rfl)
              · skip
                replace c_18 : k_ < e_ := Nat.not_le.mp (mt (nI_leI (a := e_) (b := k_) (by omega) (by omega)).mpr c_18)
                have K182 : ∀ (z : Bool), z = (decide (σ 2 k_ = 48) && !decide (e_ - k_ ≤ 1)) → ∀ (H : Heap) (locs : List Loc) (ls : Array Slot), gW G s (kPS σ (nI e_) (σ 1 4) (nI k_) x_) τ H locs → lv_has ls 2 [(0, .ref (gAd G 1))] → W p l e (gRm 1 21) s m args below meth c H locs 0 0 (MQ below (gQv G (kAdvS σ t) τ) args s 0 0 (gA G)) (F0 m 182 ls [.int (bI z)]) := by
                  intro z hz H locs ls hW hl
                  refine lv_istore_n (lv' := [(1, .int (bI z)), (0, .ref (gAd G 1))]) hx hb dX6_nextToken_182 rfl hl (by decide) rfl (fun ls hl => ?_)
                  refine lv_aload_n hx hb dX6_nextToken_183 rfl (lv_at hl 1 rfl) ?_
                  refine lv_iload_n hx hb dX6_nextToken_184 rfl (lv_at hl 0 rfl) ?_
                  refine lv_if_ne (tgt := 198) hx hb dX6_nextToken_185 (by decide) (fun c_20 => ?_) (fun c_20 => ?_)
                  · skip
                    replace c_20 : z = true := bI_ne0.mp c_20
                    refine lv_bipush (v := (-3)) hx hb dX6_nextToken_198 (by decide) ?_
                    refine lv_goto (tgt := 205) hx hb dX6_nextToken_200 (by decide) ?_
                    refine gp_X6_45 C hW (by decide) rfl dX6_nextToken_205 (fun H locs hW => ?_)
                    rw [kPS_4] at hW
                    refine lv_goto (tgt := 254) hx hb dX6_nextToken_208 (by decide) ?_
                    exact g_vret C hr hlk hW dX6_nextToken_254 (by rw [kAdvS, ← hK, kTokE, kTokK, ← hE, ← hV, if_pos c_17, if_pos c_17, if_neg (by omega), if_neg (by omega), ← hz, if_pos c_20]) (rfl)
                  · skip
                    replace c_20 : z = false := bI_eq0.mp c_20
                    refine lv_aload_n hx hb dX6_nextToken_188 rfl (lv_at hl 1 rfl) ?_
                    refine gf_X6_111 (v := x_) C hW (by decide) rfl rfl dX6_nextToken_189 ?_
                    refine lv_sipush (v := 239) hx hb dX6_nextToken_192 (by decide) ?_
                    refine lv_icmp_le (tgt := 203) hx hb dX6_nextToken_195 (by decide) (fun c_21 => ?_) (fun c_21 => ?_)
                    · skip
                      refine lv_bipush (v := (-2)) hx hb dX6_nextToken_203 (by decide) ?_
                      refine gp_X6_45 C hW (by decide) rfl dX6_nextToken_205 (fun H locs hW => ?_)
                      rw [kPS_4] at hW
                      refine lv_goto (tgt := 254) hx hb dX6_nextToken_208 (by decide) ?_
                      exact g_vret C hr hlk hW dX6_nextToken_254 (by rw [kAdvS, ← hK, kTokE, kTokK, ← hE, ← hV, if_pos c_17, if_pos c_17, if_neg (by omega), if_neg (by omega), ← hz, if_neg (bneg c_20), if_pos c_21]) (rfl)
                    · skip
                      refine lv_bipush (v := (-3)) hx hb dX6_nextToken_198 (by decide) ?_
                      refine lv_goto (tgt := 205) hx hb dX6_nextToken_200 (by decide) ?_
                      refine gp_X6_45 C hW (by decide) rfl dX6_nextToken_205 (fun H locs hW => ?_)
                      rw [kPS_4] at hW
                      refine lv_goto (tgt := 254) hx hb dX6_nextToken_208 (by decide) ?_
                      exact g_vret C hr hlk hW dX6_nextToken_254 (by rw [kAdvS, ← hK, kTokE, kTokK, ← hE, ← hV, if_pos c_17, if_pos c_17, if_neg (by omega), if_neg (by omega), ← hz, if_neg (bneg c_20), if_neg c_21]) (rfl)
                refine lv_aload_n hx hb dX6_nextToken_150 rfl (lv_at hl 0 rfl) ?_
                refine gf_X6_9 C hW (by decide) rfl dX6_nextToken_151 ?_
                refine lv_aload_n hx hb dX6_nextToken_154 rfl (lv_at hl 0 rfl) ?_
                refine gf_X6_114 (v := nI k_) C hW (by decide) rfl rfl dX6_nextToken_155 ?_
                refine g_ald (v := σ 2 k_) k_ C hW (by decide) rfl rfl (show k_ < 200 by omega) (by decide) rfl dX6_nextToken_158 ?_
                refine lv_bipush (v := 48) hx hb dX6_nextToken_159 (by decide) ?_
                refine lv_icmp_ne (tgt := 181) hx hb dX6_nextToken_161 (by decide) (fun c_22 => ?_) (fun c_22 => ?_)
                · skip
                  refine lv_iconst (v := 0) hx hb dX6_nextToken_181 (by decide) ?_
                  exact K182 false (by first | (simp [c_22]; done) | (simp [c_22]; omega)) _ _ _ hW (lv_sub hl [0] rfl)
                · skip
                  refine lv_aload_n hx hb dX6_nextToken_164 rfl (lv_at hl 0 rfl) ?_
                  refine gf_X6_39 (v := nI e_) C hW (by decide) rfl rfl dX6_nextToken_165 ?_
                  refine lv_aload_n hx hb dX6_nextToken_168 rfl (lv_at hl 0 rfl) ?_
                  refine gf_X6_114 (v := nI k_) C hW (by decide) rfl rfl dX6_nextToken_169 ?_
                  refine lv_isub hx hb dX6_nextToken_172 ?_
                  refine lv_iconst (v := 1) hx hb dX6_nextToken_173 (by decide) ?_
                  refine lv_icmp_le (tgt := 181) hx hb dX6_nextToken_174 (by decide) (fun c_23 => ?_) (fun c_23 => ?_)
                  · skip
                    have qc_23 := c_23
                    rw [(gsub (rfl : nI e_ = nI e_) (rfl : nI k_ = nI k_) hke)] at qc_23
                    replace c_23 : (e_ - k_) ≤ 1 := (nI_leI (a := (e_ - k_)) (b := 1) (by omega) (by omega)).mp qc_23
                    refine lv_iconst (v := 0) hx hb dX6_nextToken_181 (by decide) ?_
                    exact K182 false (by first | (simp [c_22, c_23]; done) | (simp [c_22, c_23]; omega)) _ _ _ hW (lv_sub hl [0] rfl)
                  · skip
                    have qc_23 := c_23
                    rw [(gsub (rfl : nI e_ = nI e_) (rfl : nI k_ = nI k_) hke)] at qc_23
                    replace c_23 : 1 < (e_ - k_) := Nat.not_le.mp (mt (nI_leI (a := (e_ - k_)) (b := 1) (by omega) (by omega)).mpr qc_23)
                    refine lv_iconst (v := 1) hx hb dX6_nextToken_177 (by decide) ?_
                    refine lv_goto (tgt := 182) hx hb dX6_nextToken_178 (by decide) ?_
                    exact K182 true (by first | (simp [c_22, c_23]; done) | (simp [c_22, c_23]; omega)) _ _ _ hW (lv_sub hl [0] rfl)
            · skip
              replace c_17 : t ≤ k_ := Nat.not_lt.mp (mt (nI_ltI (a := k_) (b := t) (by omega) (by omega)).mpr c_17)
              refine lv_aload_n hx hb dX6_nextToken_131 rfl (lv_at hl 0 rfl) ?_
              refine lv_iconst (v := (-1)) hx hb dX6_nextToken_132 (by decide) ?_
              refine gp_X6_45 C hW (by decide) rfl dX6_nextToken_133 (fun H locs hW => ?_)
              rw [kPS_4] at hW
              refine lv_goto (tgt := 254) hx hb dX6_nextToken_136 (by decide) ?_
              exact g_vret C hr hlk hW dX6_nextToken_254 (by rw [kAdvS, ← hK, kTokE, kTokK, ← hE, ← hV, if_neg (by omega), if_neg (by omega)]) (rfl)
          | succ n_ ih51 =>
            intro e_ x_ H locs ls hm hq1 hq2 hW hl
            refine lv_aload_n hx hb dX6_nextToken_51 rfl (lv_at hl 0 rfl) ?_
            refine gf_X6_39 (v := nI e_) C hW (by decide) rfl rfl dX6_nextToken_52 ?_
            refine lv_aload_n hx hb dX6_nextToken_55 rfl (lv_at hl 0 rfl) ?_
            refine gf_X6_26 (v := nI t) C hW (by decide) rfl ht dX6_nextToken_56 ?_
            refine lv_icmp_ge (tgt := 120) hx hb dX6_nextToken_59 (by decide) (fun zz => absurd zz (show ¬ nI t ≤ nI e_ from nI_ge (by omega) (by omega))) (fun _ => ?_)
            refine lv_aload_n hx hb dX6_nextToken_62 rfl (lv_at hl 0 rfl) ?_
            refine gf_X6_9 C hW (by decide) rfl dX6_nextToken_63 ?_
            refine lv_aload_n hx hb dX6_nextToken_66 rfl (lv_at hl 0 rfl) ?_
            refine gf_X6_39 (v := nI e_) C hW (by decide) rfl rfl dX6_nextToken_67 ?_
            refine g_ald (v := σ 2 e_) e_ C hW (by decide) rfl rfl (show e_ < 200 by omega) (by decide) rfl dX6_nextToken_70 ?_
            refine g_callsI (r := bI (mIn (σ 2 e_) 48 57)) (σ' := kPS σ (nI e_) (σ 1 4) (nI k_) x_) (rest := []) (As := [.int (σ 2 e_)]) C hW ks_X6_117 (k_isDigit l G (kPS σ (nI e_) (σ 1 4) (nI k_) x_) τ (σ 2 e_)) ⟨Nat.le_of_ble_eq_true rfl, Nat.le_of_ble_eq_true rfl⟩ ⟨Nat.le_refl _, Nat.le_refl _⟩ rfl hl.1 rfl (Nat.le_of_ble_eq_true rfl) dX6_nextToken_71 (fun H locs hW => ?_)
            refine lv_if_eq (tgt := 120) hx hb dX6_nextToken_74 (by decide) (fun c_24 => ?_) (fun c_24 => ?_)
            · skip
              replace c_24 : (mIn (σ 2 e_) 48 57) = false := bI_eq0.mp c_24
              have hE : e_ = rNumE (σ 2) t (t - k_) k_ := by rw [← hq1]; rw [rNumE, if_neg (by rw [rLet_lt (by omega)]; exact bneg c_24)]
              have hV : x_ = kNumV (σ 2) t (t - k_) 0 k_ := by rw [← hq2]; rw [kNumV, if_neg (by rw [rLet_lt (by omega)]; exact bneg c_24)]
              have hke : k_ ≤ e_ := by rw [hE]; exact (rNumE_le _ _ (by omega)).1
              refine lv_aload_n hx hb dX6_nextToken_120 rfl (lv_at hl 0 rfl) ?_
              refine gf_X6_114 (v := nI k_) C hW (by decide) rfl rfl dX6_nextToken_121 ?_
              refine lv_aload_n hx hb dX6_nextToken_124 rfl (lv_at hl 0 rfl) ?_
              refine gf_X6_26 (v := nI t) C hW (by decide) rfl ht dX6_nextToken_125 ?_
              refine lv_icmp_lt (tgt := 139) hx hb dX6_nextToken_128 (by decide) (fun c_25 => ?_) (fun c_25 => ?_)
              · skip
                replace c_25 : k_ < t := (nI_ltI (a := k_) (b := t) (by omega) (by omega)).mp c_25
                refine lv_aload_n hx hb dX6_nextToken_139 rfl (lv_at hl 0 rfl) ?_
                refine gf_X6_39 (v := nI e_) C hW (by decide) rfl rfl dX6_nextToken_140 ?_
                refine lv_aload_n hx hb dX6_nextToken_143 rfl (lv_at hl 0 rfl) ?_
                refine gf_X6_114 (v := nI k_) C hW (by decide) rfl rfl dX6_nextToken_144 ?_
                refine lv_icmp_le (tgt := 211) hx hb dX6_nextToken_147 (by decide) (fun c_26 => ?_) (fun c_26 => ?_)
                · skip
                  replace c_26 : e_ ≤ k_ := (nI_leI (a := e_) (b := k_) (by omega) (by omega)).mp c_26
                  refine lv_aload_n hx hb dX6_nextToken_211 rfl (lv_at hl 0 rfl) ?_
                  refine lv_aload_n hx hb dX6_nextToken_212 rfl (lv_at hl 0 rfl) ?_
                  refine gf_X6_9 C hW (by decide) rfl dX6_nextToken_213 ?_
                  refine lv_aload_n hx hb dX6_nextToken_216 rfl (lv_at hl 0 rfl) ?_
                  refine gf_X6_114 (v := nI k_) C hW (by decide) rfl rfl dX6_nextToken_217 ?_
                  refine g_ald (v := σ 2 k_) k_ C hW (by decide) rfl rfl (show k_ < 200 by omega) (by decide) rfl dX6_nextToken_220 ?_
                  refine g_callsI (r := bI (kWord (σ 2 k_))) (σ' := kPS σ (nI e_) (σ 1 4) (nI k_) x_) (rest := [.ref (gAd G 1)]) (As := [.int (σ 2 k_)]) C hW ks_X6_126 (k_isWord l G (kPS σ (nI e_) (σ 1 4) (nI k_) x_) τ (σ 2 k_)) ⟨Nat.le_of_ble_eq_true rfl, Nat.le_of_ble_eq_true rfl⟩ ⟨Nat.le_refl _, Nat.le_refl _⟩ rfl hl.1 rfl (Nat.le_of_ble_eq_true rfl) dX6_nextToken_221 (fun H locs hW => ?_)
                  refine lv_if_eq (tgt := 239) hx hb dX6_nextToken_224 (by decide) (fun c_27 => ?_) (fun c_27 => ?_)
                  · skip
                    replace c_27 : (kWord (σ 2 k_)) = false := bI_eq0.mp c_27
                    refine lv_bipush (v := (-3)) hx hb dX6_nextToken_239 (by decide) ?_
                    refine gp_X6_45 C hW (by decide) rfl dX6_nextToken_241 (fun H locs hW => ?_)
                    rw [kPS_4] at hW
                    refine lv_aload_n hx hb dX6_nextToken_244 rfl (lv_at hl 0 rfl) ?_
                    refine lv_dup hx hb dX6_nextToken_245 rfl ?_
                    refine gf_X6_39 (v := nI e_) C hW (by decide) rfl rfl dX6_nextToken_246 ?_
                    refine lv_iconst (v := 1) hx hb dX6_nextToken_249 (by decide) ?_
                    refine lv_iadd hx hb dX6_nextToken_250 ?_
                    refine gp_X6_39 C hW (by decide) rfl dX6_nextToken_251 (fun H locs hW => ?_)
                    rw [kPS_7] at hW
                    exact g_vret C hr hlk hW dX6_nextToken_254 (by rw [kAdvS, ← hK, kTokE, kTokK, ← hE, ← hV, if_pos c_25, if_pos c_25, if_pos c_26, if_pos c_26, if_neg (bneg c_27), nI_1]) (rfl)
                  · skip
                    replace c_27 : (kWord (σ 2 k_)) = true := bI_ne0.mp c_27
                    refine lv_aload_n hx hb dX6_nextToken_227 rfl (lv_at hl 0 rfl) ?_
                    refine gf_X6_9 C hW (by decide) rfl dX6_nextToken_228 ?_
                    refine lv_aload_n hx hb dX6_nextToken_231 rfl (lv_at hl 0 rfl) ?_
                    refine gf_X6_114 (v := nI k_) C hW (by decide) rfl rfl dX6_nextToken_232 ?_
                    refine g_ald (v := σ 2 k_) k_ C hW (by decide) rfl rfl (show k_ < 200 by omega) (by decide) rfl dX6_nextToken_235 ?_
                    refine lv_goto (tgt := 241) hx hb dX6_nextToken_236 (by decide) ?_
                    refine gp_X6_45 C hW (by decide) rfl dX6_nextToken_241 (fun H locs hW => ?_)
                    rw [kPS_4] at hW
                    refine lv_aload_n hx hb dX6_nextToken_244 rfl (lv_at hl 0 rfl) ?_
                    refine lv_dup hx hb dX6_nextToken_245 rfl ?_
                    refine gf_X6_39 (v := nI e_) C hW (by decide) rfl rfl dX6_nextToken_246 ?_
                    refine lv_iconst (v := 1) hx hb dX6_nextToken_249 (by decide) ?_
                    refine lv_iadd hx hb dX6_nextToken_250 ?_
                    refine gp_X6_39 C hW (by decide) rfl dX6_nextToken_251 (fun H locs hW => ?_)
                    rw [kPS_7] at hW
                    exact g_vret C hr hlk hW dX6_nextToken_254 (by rw [kAdvS, ← hK, kTokE, kTokK, ← hE, ← hV, if_pos c_25, if_pos c_25, if_pos c_26, if_pos c_26, if_pos c_27, nI_1]) (rfl)
                · skip
                  replace c_26 : k_ < e_ := Nat.not_le.mp (mt (nI_leI (a := e_) (b := k_) (by omega) (by omega)).mpr c_26)
                  have K182 : ∀ (z : Bool), z = (decide (σ 2 k_ = 48) && !decide (e_ - k_ ≤ 1)) → ∀ (H : Heap) (locs : List Loc) (ls : Array Slot), gW G s (kPS σ (nI e_) (σ 1 4) (nI k_) x_) τ H locs → lv_has ls 2 [(0, .ref (gAd G 1))] → W p l e (gRm 1 21) s m args below meth c H locs 0 0 (MQ below (gQv G (kAdvS σ t) τ) args s 0 0 (gA G)) (F0 m 182 ls [.int (bI z)]) := by
                    intro z hz H locs ls hW hl
                    refine lv_istore_n (lv' := [(1, .int (bI z)), (0, .ref (gAd G 1))]) hx hb dX6_nextToken_182 rfl hl (by decide) rfl (fun ls hl => ?_)
                    refine lv_aload_n hx hb dX6_nextToken_183 rfl (lv_at hl 1 rfl) ?_
                    refine lv_iload_n hx hb dX6_nextToken_184 rfl (lv_at hl 0 rfl) ?_
                    refine lv_if_ne (tgt := 198) hx hb dX6_nextToken_185 (by decide) (fun c_28 => ?_) (fun c_28 => ?_)
                    · skip
                      replace c_28 : z = true := bI_ne0.mp c_28
                      refine lv_bipush (v := (-3)) hx hb dX6_nextToken_198 (by decide) ?_
                      refine lv_goto (tgt := 205) hx hb dX6_nextToken_200 (by decide) ?_
                      refine gp_X6_45 C hW (by decide) rfl dX6_nextToken_205 (fun H locs hW => ?_)
                      rw [kPS_4] at hW
                      refine lv_goto (tgt := 254) hx hb dX6_nextToken_208 (by decide) ?_
                      exact g_vret C hr hlk hW dX6_nextToken_254 (by rw [kAdvS, ← hK, kTokE, kTokK, ← hE, ← hV, if_pos c_25, if_pos c_25, if_neg (by omega), if_neg (by omega), ← hz, if_pos c_28]) (rfl)
                    · skip
                      replace c_28 : z = false := bI_eq0.mp c_28
                      refine lv_aload_n hx hb dX6_nextToken_188 rfl (lv_at hl 1 rfl) ?_
                      refine gf_X6_111 (v := x_) C hW (by decide) rfl rfl dX6_nextToken_189 ?_
                      refine lv_sipush (v := 239) hx hb dX6_nextToken_192 (by decide) ?_
                      refine lv_icmp_le (tgt := 203) hx hb dX6_nextToken_195 (by decide) (fun c_29 => ?_) (fun c_29 => ?_)
                      · skip
                        refine lv_bipush (v := (-2)) hx hb dX6_nextToken_203 (by decide) ?_
                        refine gp_X6_45 C hW (by decide) rfl dX6_nextToken_205 (fun H locs hW => ?_)
                        rw [kPS_4] at hW
                        refine lv_goto (tgt := 254) hx hb dX6_nextToken_208 (by decide) ?_
                        exact g_vret C hr hlk hW dX6_nextToken_254 (by rw [kAdvS, ← hK, kTokE, kTokK, ← hE, ← hV, if_pos c_25, if_pos c_25, if_neg (by omega), if_neg (by omega), ← hz, if_neg (bneg c_28), if_pos c_29]) (rfl)
                      · skip
                        refine lv_bipush (v := (-3)) hx hb dX6_nextToken_198 (by decide) ?_
                        refine lv_goto (tgt := 205) hx hb dX6_nextToken_200 (by decide) ?_
                        refine gp_X6_45 C hW (by decide) rfl dX6_nextToken_205 (fun H locs hW => ?_)
                        rw [kPS_4] at hW
                        refine lv_goto (tgt := 254) hx hb dX6_nextToken_208 (by decide) ?_
                        exact g_vret C hr hlk hW dX6_nextToken_254 (by rw [kAdvS, ← hK, kTokE, kTokK, ← hE, ← hV, if_pos c_25, if_pos c_25, if_neg (by omega), if_neg (by omega), ← hz, if_neg (bneg c_28), if_neg c_29]) (rfl)
                  refine lv_aload_n hx hb dX6_nextToken_150 rfl (lv_at hl 0 rfl) ?_
                  refine gf_X6_9 C hW (by decide) rfl dX6_nextToken_151 ?_
                  refine lv_aload_n hx hb dX6_nextToken_154 rfl (lv_at hl 0 rfl) ?_
                  refine gf_X6_114 (v := nI k_) C hW (by decide) rfl rfl dX6_nextToken_155 ?_
                  refine g_ald (v := σ 2 k_) k_ C hW (by decide) rfl rfl (show k_ < 200 by omega) (by decide) rfl dX6_nextToken_158 ?_
                  refine lv_bipush (v := 48) hx hb dX6_nextToken_159 (by decide) ?_
                  refine lv_icmp_ne (tgt := 181) hx hb dX6_nextToken_161 (by decide) (fun c_30 => ?_) (fun c_30 => ?_)
                  · skip
                    refine lv_iconst (v := 0) hx hb dX6_nextToken_181 (by decide) ?_
                    exact K182 false (by first | (simp [c_30]; done) | (simp [c_30]; omega)) _ _ _ hW (lv_sub hl [0] rfl)
                  · skip
                    refine lv_aload_n hx hb dX6_nextToken_164 rfl (lv_at hl 0 rfl) ?_
                    refine gf_X6_39 (v := nI e_) C hW (by decide) rfl rfl dX6_nextToken_165 ?_
                    refine lv_aload_n hx hb dX6_nextToken_168 rfl (lv_at hl 0 rfl) ?_
                    refine gf_X6_114 (v := nI k_) C hW (by decide) rfl rfl dX6_nextToken_169 ?_
                    refine lv_isub hx hb dX6_nextToken_172 ?_
                    refine lv_iconst (v := 1) hx hb dX6_nextToken_173 (by decide) ?_
                    refine lv_icmp_le (tgt := 181) hx hb dX6_nextToken_174 (by decide) (fun c_31 => ?_) (fun c_31 => ?_)
                    · skip
                      have qc_31 := c_31
                      rw [(gsub (rfl : nI e_ = nI e_) (rfl : nI k_ = nI k_) hke)] at qc_31
                      replace c_31 : (e_ - k_) ≤ 1 := (nI_leI (a := (e_ - k_)) (b := 1) (by omega) (by omega)).mp qc_31
                      refine lv_iconst (v := 0) hx hb dX6_nextToken_181 (by decide) ?_
                      exact K182 false (by first | (simp [c_30, c_31]; done) | (simp [c_30, c_31]; omega)) _ _ _ hW (lv_sub hl [0] rfl)
                    · skip
                      have qc_31 := c_31
                      rw [(gsub (rfl : nI e_ = nI e_) (rfl : nI k_ = nI k_) hke)] at qc_31
                      replace c_31 : 1 < (e_ - k_) := Nat.not_le.mp (mt (nI_leI (a := (e_ - k_)) (b := 1) (by omega) (by omega)).mpr qc_31)
                      refine lv_iconst (v := 1) hx hb dX6_nextToken_177 (by decide) ?_
                      refine lv_goto (tgt := 182) hx hb dX6_nextToken_178 (by decide) ?_
                      exact K182 true (by first | (simp [c_30, c_31]; done) | (simp [c_30, c_31]; omega)) _ _ _ hW (lv_sub hl [0] rfl)
              · skip
                replace c_25 : t ≤ k_ := Nat.not_lt.mp (mt (nI_ltI (a := k_) (b := t) (by omega) (by omega)).mpr c_25)
                refine lv_aload_n hx hb dX6_nextToken_131 rfl (lv_at hl 0 rfl) ?_
                refine lv_iconst (v := (-1)) hx hb dX6_nextToken_132 (by decide) ?_
                refine gp_X6_45 C hW (by decide) rfl dX6_nextToken_133 (fun H locs hW => ?_)
                rw [kPS_4] at hW
                refine lv_goto (tgt := 254) hx hb dX6_nextToken_136 (by decide) ?_
                exact g_vret C hr hlk hW dX6_nextToken_254 (by rw [kAdvS, ← hK, kTokE, kTokK, ← hE, ← hV, if_neg (by omega), if_neg (by omega)]) (rfl)
            · skip
              replace c_24 : (mIn (σ 2 e_) 48 57) = true := bI_ne0.mp c_24
              refine lv_aload_n hx hb dX6_nextToken_77 rfl (lv_at hl 0 rfl) ?_
              refine lv_sipush (v := 240) hx hb dX6_nextToken_78 (by decide) ?_
              refine lv_aload_n hx hb dX6_nextToken_81 rfl (lv_at hl 0 rfl) ?_
              refine gf_X6_111 (v := x_) C hW (by decide) rfl rfl dX6_nextToken_82 ?_
              refine lv_bipush (v := 10) hx hb dX6_nextToken_85 (by decide) ?_
              refine lv_imul hx hb dX6_nextToken_87 ?_
              refine lv_aload_n hx hb dX6_nextToken_88 rfl (lv_at hl 0 rfl) ?_
              refine gf_X6_9 C hW (by decide) rfl dX6_nextToken_89 ?_
              refine lv_aload_n hx hb dX6_nextToken_92 rfl (lv_at hl 0 rfl) ?_
              refine gf_X6_39 (v := nI e_) C hW (by decide) rfl rfl dX6_nextToken_93 ?_
              refine g_ald (v := σ 2 e_) e_ C hW (by decide) rfl rfl (show e_ < 200 by omega) (by decide) rfl dX6_nextToken_96 ?_
              refine lv_iadd hx hb dX6_nextToken_97 ?_
              refine lv_bipush (v := 48) hx hb dX6_nextToken_98 (by decide) ?_
              refine lv_isub hx hb dX6_nextToken_100 ?_
              refine g_min C hl.1 kml_X6_121 (Nat.le_of_ble_eq_true rfl) (Nat.le_of_ble_eq_true rfl) (Nat.le_refl _) (Nat.le_refl _) dX6_nextToken_101 ?_
              refine gp_X6_111 C hW (by decide) rfl dX6_nextToken_104 (fun H locs hW => ?_)
              rw [kPS_6] at hW
              refine lv_aload_n hx hb dX6_nextToken_107 rfl (lv_at hl 0 rfl) ?_
              refine lv_dup hx hb dX6_nextToken_108 rfl ?_
              refine gf_X6_39 (v := nI e_) C hW (by decide) rfl rfl dX6_nextToken_109 ?_
              refine lv_iconst (v := 1) hx hb dX6_nextToken_112 (by decide) ?_
              refine lv_iadd hx hb dX6_nextToken_113 ?_
              refine gp_X6_39 C hW (by decide) rfl dX6_nextToken_114 (fun H locs hW => ?_)
              rw [kPS_7] at hW
              refine lv_goto (tgt := 51) hx hb dX6_nextToken_117 (by decide) ?_
              exact ih51 (e_ + 1) (if ((x_ * 10) + (σ 2 e_)) - 48 < 240 then ((x_ * 10) + (σ 2 e_)) - 48 else 240) _ _ _ (by omega) (by rw [← hq1, rNumE, if_pos (by rw [rLet_lt (by omega)]; exact c_24)]) (by rw [← hq2, kNumV, rLet_lt (by omega), if_pos c_24]) (by rw [nI_1] at hW; exact hW) (lv_sub hl [0] rfl)
        exact L51 (t - k_) k_ 0 _ _ _ (by omega) rfl rfl hW (lv_sub hl [0] rfl)
      · skip
        refine lv_aload_n hx hb dX6_nextToken_25 rfl (lv_at hl 0 rfl) ?_
        refine lv_dup hx hb dX6_nextToken_26 rfl ?_
        refine gf_X6_39 (v := nI k_) C hW (by decide) rfl rfl dX6_nextToken_27 ?_
        refine lv_iconst (v := 1) hx hb dX6_nextToken_30 (by decide) ?_
        refine lv_iadd hx hb dX6_nextToken_31 ?_
        refine gp_X6_39 C hW (by decide) rfl dX6_nextToken_32 (fun H locs hW => ?_)
        rw [kPS_7] at hW
        refine lv_goto (tgt := 0) hx hb dX6_nextToken_35 (by decide) ?_
        exact ih0 (k_ + 1) _ _ _ (by omega) (by rw [← hq, rSkip, if_pos (by rw [rLet_lt (by omega)]; exact c_16)]) (by rw [nI_1] at hW; exact hW) (lv_sub hl [0] rfl)
  exact L0 (t - (σ 1 7).toNatClampNeg) ((σ 1 7).toNatClampNeg) _ _ _ (by omega) rfl hW (lv_sub hl [0] rfl)
