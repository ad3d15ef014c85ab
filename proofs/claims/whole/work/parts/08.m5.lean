/-! ===== the reference: reading ===== -/
def mPS (σ : gSt) (nx tk pl va : Int32) : gSt := gu (gu (gu (gu σ 96 4 nx) 96 5 tk) 96 6 pl) 96 7 va
theorem mPS_at (σ : gSt) (nx tk pl va : Int32) (c j : Nat) : mPS σ nx tk pl va c j = if c = 96 ∧ j = 7 then va else if c = 96 ∧ j = 6 then pl else if c = 96 ∧ j = 5 then tk else if c = 96 ∧ j = 4 then nx else σ c j := by
  simp only [mPS, gu_at]
theorem mPS_ne {σ : gSt} {nx tk pl va : Int32} {c : Nat} (h : c ≠ 96) : mPS σ nx tk pl va c = σ c := by
  funext j
  simp [mPS_at, h]
theorem mPS_self (σ : gSt) : mPS σ (σ 96 4) (σ 96 5) (σ 96 6) (σ 96 7) = σ := by
  funext c j
  rw [mPS_at]
  split
  · next h => rw [h.1, h.2]
  · split
    · next h => rw [h.1, h.2]
    · split
      · next h => rw [h.1, h.2]
      · split
        · next h => rw [h.1, h.2]
        · rfl
theorem mPS_7 (σ : gSt) (nx tk pl va x : Int32) : gu (mPS σ nx tk pl va) 96 7 x = mPS σ nx tk pl x := by
  funext c j
  simp only [mPS_at, gu_at]
  split <;> rfl
theorem mPS_6 (σ : gSt) (nx tk pl va x : Int32) : gu (mPS σ nx tk pl va) 96 6 x = mPS σ nx tk x va := by
  funext c j
  simp only [mPS_at, gu_at]
  by_cases h : c = 96 <;> by_cases h7 : j = 7 <;> by_cases h6 : j = 6 <;> simp_all
theorem mPS_5 (σ : gSt) (nx tk pl va x : Int32) : gu (mPS σ nx tk pl va) 96 5 x = mPS σ nx x pl va := by
  funext c j
  simp only [mPS_at, gu_at]
  by_cases h : c = 96 <;> by_cases h7 : j = 7 <;> by_cases h6 : j = 6 <;> by_cases h5 : j = 5 <;> simp_all
theorem mPS_4 (σ : gSt) (nx tk pl va x : Int32) : gu (mPS σ nx tk pl va) 96 4 x = mPS σ x tk pl va := by
  funext c j
  simp only [mPS_at, gu_at]
  by_cases h : c = 96 <;> by_cases h7 : j = 7 <;> by_cases h6 : j = 6 <;> by_cases h5 : j = 5 <;> by_cases h4 : j = 4 <;> simp_all
/-- past the blanks -/
def rSkip (tx : Nat → Int32) (t : Nat) : Nat → Nat → Nat
  | 0, k => k
  | n + 1, k => if rLet tx t k = 32 then rSkip tx t n (k + 1) else k
theorem rSkip_le {tx : Nat → Int32} {t : Nat} : ∀ n k, n + k = t → k ≤ rSkip tx t n k ∧ rSkip tx t n k ≤ t
  | 0, k, h => by rw [rSkip]; omega
  | n + 1, k, h => by
    rw [rSkip]
    split
    · have := rSkip_le (tx := tx) (t := t) n (k + 1) (by omega); omega
    · omega
def rNumE (tx : Nat → Int32) (t : Nat) : Nat → Nat → Nat
  | 0, k => k
  | n + 1, k => if mIn (rLet tx t k) 48 57 = true then rNumE tx t n (k + 1) else k
theorem rNumE_le {tx : Nat → Int32} {t : Nat} : ∀ n k, n + k = t → k ≤ rNumE tx t n k ∧ rNumE tx t n k ≤ t
  | 0, k, h => by rw [rNumE]; omega
  | n + 1, k, h => by
    rw [rNumE]
    split
    · have := rNumE_le (tx := tx) (t := t) n (k + 1) (by omega); omega
    · omega
def rNumV (tx : Nat → Int32) (t : Nat) : Nat → Int32 → Nat → Int32
  | 0, v, _ => v
  | n + 1, v, k => if mIn (rLet tx t k) 48 57 = true then rNumV tx t n (if v ≤ 239 then 10 * v + rLet tx t k - 48 else v) (k + 1) else v
/-- the token behind the place k: its kind -/
def rTokK (tx : Nat → Int32) (t K : Nat) : Int32 :=
  if 0 ≤ rLet tx t K then
    (if mIn (rLet tx t K) 48 57 = true then (if 239 < rNumV tx t (t - K) 0 K then 4 else if rLet tx t K = 48 then (if nI (rNumE tx t (t - K) K) - nI K ≤ 1 then 2 else 4) else 2)
    else if rLet tx t K = 59 then 3 else if mIsL (rLet tx t K) = true then 1 else 4)
  else 0
def rTokV (tx : Nat → Int32) (t K : Nat) (v0 : Int32) : Int32 :=
  if 0 ≤ rLet tx t K then (if mIn (rLet tx t K) 48 57 = true then rNumV tx t (t - K) 0 K else rLet tx t K) else v0
def rTokE (tx : Nat → Int32) (t K : Nat) : Nat :=
  if 0 ≤ rLet tx t K then (if mIn (rLet tx t K) 48 57 = true then rNumE tx t (t - K) K else K + 1) else K
/-- where the token behind the place 'next' begins -/
def mK (σ : gSt) (t : Nat) : Nat := rSkip (σ 97) t (t - (σ 96 4).toNatClampNeg) (σ 96 4).toNatClampNeg
def mAdvS (σ : gSt) (t : Nat) : gSt := mPS σ (nI (rTokE (σ 97) t (mK σ t))) (rTokK (σ 97) t (mK σ t)) (nI (mK σ t)) (rTokV (σ 97) t (mK σ t) (σ 96 7))
/-- what stands while a text is read -/
def pOk (σ : gSt) (t : Nat) : Prop := σ 96 3 = nI t ∧ t ≤ 200 ∧ ∃ k, k ≤ t ∧ σ 96 4 = nI k
theorem pOk.nx {σ : gSt} {t : Nat} (h : pOk σ t) : σ 96 4 = nI (σ 96 4).toNatClampNeg ∧ (σ 96 4).toNatClampNeg ≤ t := by
  obtain ⟨-, h2, k, h3, h4⟩ := h
  rw [h4, nI_clamp (by omega)]
  exact ⟨rfl, h3⟩
theorem rLet_t (tx : Nat → Int32) (t : Nat) : rLet tx t t = -1 := by simp [rLet]
theorem mK_le {σ : gSt} {t : Nat} (h : pOk σ t) : mK σ t ≤ t := (rSkip_le _ _ (by have := h.nx.2; omega)).2
theorem rTokE_le {tx : Nat → Int32} {t K : Nat} (hK : K ≤ t) : rTokE tx t K ≤ t := by
  unfold rTokE
  split
  · next h =>
    have hlt : K < t := by
      rcases Nat.lt_or_ge K t with q | q
      · exact q
      · rw [show K = t by omega, rLet_t] at h
        exact absurd h (by decide)
    split
    · exact (rNumE_le _ _ (by omega)).2
    · omega
  · exact hK
theorem pOk_adv {σ : gSt} {t : Nat} (h : pOk σ t) : pOk (mAdvS σ t) t := by
  refine ⟨?_, h.2.1, _, rTokE_le (tx := σ 97) (mK_le h), ?_⟩
  · rw [mAdvS, mPS_at]; simp; exact h.1
  · rw [mAdvS, mPS_at]; simp
set_option maxHeartbeats 4000000 in
set_option maxRecDepth 100000 in
theorem m_advances (l : Launch) (G : gG) (σ : gSt) (τ : Nat → Int64) (t : Nat) (hp : pOk σ t) : gV l yX10_advances cX10_advances 2 (none : Option Jvm.ClassFile.FieldType) 1 22 G [.ref (gAd G 96)] σ τ (mAdvS σ t) τ := by
  refine gMet_of (by decide) (Nat.le_of_ble_eq_true rfl) ?_
  intro p e s m args below meth c C hr hlk ls hl hW
  have hx := C.1
  have hb := C.2.1
  have hl : lv_has ls 2 [(0, .ref (gAd G 96))] := hl
  obtain ⟨hk4, hk5⟩ := hp.nx
  have ht := hp.1
  have ht2 := hp.2.1
  rw [← mPS_self σ, hk4] at hW
  have L0 : ∀ (n : Nat) (k_ : Nat) (H : Heap) (locs : List Loc) (ls : Array Slot), n + k_ = t → (rSkip (σ 97) t n k_ = rSkip (σ 97) t (t - (σ 96 4).toNatClampNeg) (σ 96 4).toNatClampNeg) → gW G s (mPS σ (nI k_) (σ 96 5) (σ 96 6) (σ 96 7)) τ H locs → lv_has ls 2 [(0, .ref (gAd G 96))] → W p l e (gRm 1 22) s m args below meth c H locs 0 0 (MQ below (gQv G (mAdvS σ t) τ) args s 0 0 (gA G)) (F0 m 0 ls []) := by
    intro n
    induction n with
    | zero =>
      intro k_ H locs ls hm hq hW hl
      refine lv_aload_n hx hb dX10_advances_0 rfl (lv_at hl 0 rfl) ?_
      refine lv_aload_n hx hb dX10_advances_1 rfl (lv_at hl 0 rfl) ?_
      refine gf_X10_73 (v := nI k_) C hW (by decide) rfl rfl dX10_advances_2 ?_
      refine g_callvI (r := rLet (σ 97) t k_) (σ' := mPS σ (nI k_) (σ 96 5) (σ 96 6) (σ 96 7)) (rest := []) (As := [.int (nI k_)]) C hW kv_X10_76 96 (by decide) (gL_10 rfl) rfl (m_letterAt l G (mPS σ (nI k_) (σ 96 5) (σ 96 6) (σ 96 7)) τ k_ (by omega) t ht ht2) ⟨Nat.le_of_ble_eq_true rfl, Nat.le_of_ble_eq_true rfl⟩ ⟨Nat.le_refl _, Nat.le_refl _⟩ rfl hl.1 rfl (Nat.le_of_ble_eq_true rfl) dX10_advances_5 (fun H locs hW => ?_)
      refine lv_bipush (v := 32) hx hb dX10_advances_8 (by decide) ?_
      refine lv_icmp_ne (tgt := 26) hx hb dX10_advances_10 (by decide) (fun c_1 => ?_) (fun c_1 => ?_)
      · skip
        have hK : k_ = mK σ t := by rw [mK, ← hq]; rfl
        have hKt : k_ ≤ t := by omega
        refine lv_aload_n hx hb dX10_advances_26 rfl (lv_at hl 0 rfl) ?_
        refine lv_aload_n hx hb dX10_advances_27 rfl (lv_at hl 0 rfl) ?_
        refine gf_X10_73 (v := nI k_) C hW (by decide) rfl rfl dX10_advances_28 ?_
        refine gp_X10_80 C hW (by decide) rfl dX10_advances_31 (fun H locs hW => ?_)
        rw [mPS_6] at hW
        refine lv_aload_n hx hb dX10_advances_34 rfl (lv_at hl 0 rfl) ?_
        refine lv_aload_n hx hb dX10_advances_35 rfl (lv_at hl 0 rfl) ?_
        refine gf_X10_73 (v := nI k_) C hW (by decide) rfl rfl dX10_advances_36 ?_
        refine g_callvI (r := rLet (σ 97) t k_) (σ' := mPS σ (nI k_) (σ 96 5) (nI k_) (σ 96 7)) (rest := []) (As := [.int (nI k_)]) C hW kv_X10_76 96 (by decide) (gL_10 rfl) rfl (m_letterAt l G (mPS σ (nI k_) (σ 96 5) (nI k_) (σ 96 7)) τ k_ (by omega) t ht ht2) ⟨Nat.le_of_ble_eq_true rfl, Nat.le_of_ble_eq_true rfl⟩ ⟨Nat.le_refl _, Nat.le_refl _⟩ rfl hl.1 rfl (Nat.le_of_ble_eq_true rfl) dX10_advances_39 (fun H locs hW => ?_)
        refine lv_istore_n (lv' := [(1, .int (rLet (σ 97) t k_)), (0, .ref (gAd G 96))]) hx hb dX10_advances_42 rfl hl (by decide) rfl (fun ls hl => ?_)
        refine lv_iload_n hx hb dX10_advances_43 rfl (lv_at hl 0 rfl) ?_
        refine lv_if_ge (tgt := 55) hx hb dX10_advances_44 (by decide) (fun c_2 => ?_) (fun c_2 => ?_)
        · skip
          refine lv_iload_n hx hb dX10_advances_55 rfl (lv_at hl 0 rfl) ?_
          refine lv_bipush (v := 48) hx hb dX10_advances_56 (by decide) ?_
          refine lv_bipush (v := 57) hx hb dX10_advances_58 (by decide) ?_
          refine g_callsI (r := bI (mIn (rLet (σ 97) t k_) 48 57)) (σ' := mPS σ (nI k_) (σ 96 5) (nI k_) (σ 96 7)) (rest := []) (As := [.int (rLet (σ 97) t k_), .int 48, .int 57]) C hW ks_X10_66 (m_in l G (mPS σ (nI k_) (σ 96 5) (nI k_) (σ 96 7)) τ (rLet (σ 97) t k_) 48 57) ⟨Nat.le_of_ble_eq_true rfl, Nat.le_of_ble_eq_true rfl⟩ ⟨Nat.le_refl _, Nat.le_refl _⟩ rfl hl.1 rfl (Nat.le_of_ble_eq_true rfl) dX10_advances_60 (fun H locs hW => ?_)
          refine lv_if_eq (tgt := 183) hx hb dX10_advances_63 (by decide) (fun c_3 => ?_) (fun c_3 => ?_)
          · skip
            replace c_3 : (mIn (rLet (σ 97) t k_) 48 57) = false := bI_eq0.mp c_3
            refine lv_aload_n hx hb dX10_advances_183 rfl (lv_at hl 1 rfl) ?_
            refine lv_dup hx hb dX10_advances_184 rfl ?_
            refine gf_X10_73 (v := nI k_) C hW (by decide) rfl rfl dX10_advances_185 ?_
            refine lv_iconst (v := 1) hx hb dX10_advances_188 (by decide) ?_
            refine lv_iadd hx hb dX10_advances_189 ?_
            refine gp_X10_73 C hW (by decide) rfl dX10_advances_190 (fun H locs hW => ?_)
            rw [mPS_4] at hW
            refine lv_aload_n hx hb dX10_advances_193 rfl (lv_at hl 1 rfl) ?_
            refine lv_iload_n hx hb dX10_advances_194 rfl (lv_at hl 0 rfl) ?_
            refine gp_X10_86 C hW (by decide) rfl dX10_advances_195 (fun H locs hW => ?_)
            rw [mPS_7] at hW
            refine lv_aload_n hx hb dX10_advances_198 rfl (lv_at hl 1 rfl) ?_
            refine lv_iload_n hx hb dX10_advances_199 rfl (lv_at hl 0 rfl) ?_
            refine lv_bipush (v := 59) hx hb dX10_advances_200 (by decide) ?_
            refine lv_icmp_ne (tgt := 209) hx hb dX10_advances_202 (by decide) (fun c_4 => ?_) (fun c_4 => ?_)
            · skip
              refine lv_iload_n hx hb dX10_advances_209 rfl (lv_at hl 0 rfl) ?_
              refine g_callsI (r := bI (mIsL (rLet (σ 97) t k_))) (σ' := mPS σ ((nI k_) + 1) (σ 96 5) (nI k_) (rLet (σ 97) t k_)) (rest := [.ref (gAd G 96)]) (As := [.int (rLet (σ 97) t k_)]) C hW ks_X10_89 (m_isLetter l G (mPS σ ((nI k_) + 1) (σ 96 5) (nI k_) (rLet (σ 97) t k_)) τ (rLet (σ 97) t k_)) ⟨Nat.le_of_ble_eq_true rfl, Nat.le_of_ble_eq_true rfl⟩ ⟨Nat.le_refl _, Nat.le_refl _⟩ rfl hl.1 rfl (Nat.le_of_ble_eq_true rfl) dX10_advances_210 (fun H locs hW => ?_)
              refine lv_if_eq (tgt := 220) hx hb dX10_advances_213 (by decide) (fun c_5 => ?_) (fun c_5 => ?_)
              · skip
                replace c_5 : (mIsL (rLet (σ 97) t k_)) = false := bI_eq0.mp c_5
                refine lv_iconst (v := 4) hx hb dX10_advances_220 (by decide) ?_
                refine gp_X10_83 C hW (by decide) rfl dX10_advances_221 (fun H locs hW => ?_)
                rw [mPS_5] at hW
                exact g_vret C hr hlk hW dX10_advances_224 (by rw [mAdvS, ← hK]; rw [rTokE, rTokK, rTokV, if_pos c_2, if_pos c_2, if_pos c_2, if_neg (bneg c_3), if_neg (bneg c_3), if_neg (bneg c_3), if_neg c_4, if_neg (bneg c_5), ← nI_1]) (rfl)
              · skip
                replace c_5 : (mIsL (rLet (σ 97) t k_)) = true := bI_ne0.mp c_5
                refine lv_iconst (v := 1) hx hb dX10_advances_216 (by decide) ?_
                refine lv_goto (tgt := 221) hx hb dX10_advances_217 (by decide) ?_
                refine gp_X10_83 C hW (by decide) rfl dX10_advances_221 (fun H locs hW => ?_)
                rw [mPS_5] at hW
                exact g_vret C hr hlk hW dX10_advances_224 (by rw [mAdvS, ← hK]; rw [rTokE, rTokK, rTokV, if_pos c_2, if_pos c_2, if_pos c_2, if_neg (bneg c_3), if_neg (bneg c_3), if_neg (bneg c_3), if_neg c_4, if_pos c_5, ← nI_1]) (rfl)
            · skip
              refine lv_iconst (v := 3) hx hb dX10_advances_205 (by decide) ?_
              refine lv_goto (tgt := 221) hx hb dX10_advances_206 (by decide) ?_
              refine gp_X10_83 C hW (by decide) rfl dX10_advances_221 (fun H locs hW => ?_)
              rw [mPS_5] at hW
              exact g_vret C hr hlk hW dX10_advances_224 (by rw [mAdvS, ← hK]; rw [rTokE, rTokK, rTokV, if_pos c_2, if_pos c_2, if_pos c_2, if_neg (bneg c_3), if_neg (bneg c_3), if_neg (bneg c_3), if_pos c_4, ← nI_1]) (rfl)
          · skip
            replace c_3 : (mIn (rLet (σ 97) t k_) 48 57) = true := bI_ne0.mp c_3
            refine lv_aload_n hx hb dX10_advances_66 rfl (lv_at hl 1 rfl) ?_
            refine lv_iconst (v := 0) hx hb dX10_advances_67 (by decide) ?_
            refine gp_X10_86 C hW (by decide) rfl dX10_advances_68 (fun H locs hW => ?_)
            rw [mPS_7] at hW
            have L71 : ∀ (n_ : Nat) (e_ : Nat) (x_ : Int32) (H : Heap) (locs : List Loc) (ls : Array Slot), n_ + e_ = t → (rNumE (σ 97) t n_ e_ = rNumE (σ 97) t (t - k_) k_) → (rNumV (σ 97) t n_ x_ e_ = rNumV (σ 97) t (t - k_) 0 k_) → gW G s (mPS σ (nI e_) (σ 96 5) (nI k_) x_) τ H locs → lv_has ls 2 [(1, .int (rLet (σ 97) t k_)), (0, .ref (gAd G 96))] → W p l e (gRm 1 22) s m args below meth c H locs 0 0 (MQ below (gQv G (mAdvS σ t) τ) args s 0 0 (gA G)) (F0 m 71 ls []) := by
              intro n_
              induction n_ with
              | zero =>
                intro e_ x_ H locs ls hm hq1 hq2 hW hl
                refine lv_aload_n hx hb dX10_advances_71 rfl (lv_at hl 1 rfl) ?_
                refine lv_aload_n hx hb dX10_advances_72 rfl (lv_at hl 1 rfl) ?_
                refine gf_X10_73 (v := nI e_) C hW (by decide) rfl rfl dX10_advances_73 ?_
                refine g_callvI (r := rLet (σ 97) t e_) (σ' := mPS σ (nI e_) (σ 96 5) (nI k_) x_) (rest := []) (As := [.int (nI e_)]) C hW kv_X10_76 96 (by decide) (gL_10 rfl) rfl (m_letterAt l G (mPS σ (nI e_) (σ 96 5) (nI k_) x_) τ e_ (by omega) t ht ht2) ⟨Nat.le_of_ble_eq_true rfl, Nat.le_of_ble_eq_true rfl⟩ ⟨Nat.le_refl _, Nat.le_refl _⟩ rfl hl.1 rfl (Nat.le_of_ble_eq_true rfl) dX10_advances_76 (fun H locs hW => ?_)
                refine lv_bipush (v := 48) hx hb dX10_advances_79 (by decide) ?_
                refine lv_bipush (v := 57) hx hb dX10_advances_81 (by decide) ?_
                refine g_callsI (r := bI (mIn (rLet (σ 97) t e_) 48 57)) (σ' := mPS σ (nI e_) (σ 96 5) (nI k_) x_) (rest := []) (As := [.int (rLet (σ 97) t e_), .int 48, .int 57]) C hW ks_X10_66 (m_in l G (mPS σ (nI e_) (σ 96 5) (nI k_) x_) τ (rLet (σ 97) t e_) 48 57) ⟨Nat.le_of_ble_eq_true rfl, Nat.le_of_ble_eq_true rfl⟩ ⟨Nat.le_refl _, Nat.le_refl _⟩ rfl hl.1 rfl (Nat.le_of_ble_eq_true rfl) dX10_advances_83 (fun H locs hW => ?_)
                refine lv_if_eq (tgt := 142) hx hb dX10_advances_86 (by decide) (fun c_6 => ?_) (fun c_6 => ?_)
                · skip
                  replace c_6 : (mIn (rLet (σ 97) t e_) 48 57) = false := bI_eq0.mp c_6
                  have hE : e_ = rNumE (σ 97) t (t - k_) k_ := by rw [← hq1]; rfl
                  have hV : x_ = rNumV (σ 97) t (t - k_) 0 k_ := by rw [← hq2]; rfl
                  refine lv_aload_n hx hb dX10_advances_142 rfl (lv_at hl 1 rfl) ?_
                  refine lv_aload_n hx hb dX10_advances_143 rfl (lv_at hl 1 rfl) ?_
                  refine gf_X10_86 (v := x_) C hW (by decide) rfl rfl dX10_advances_144 ?_
                  refine lv_sipush (v := 239) hx hb dX10_advances_147 (by decide) ?_
                  refine lv_icmp_gt (tgt := 172) hx hb dX10_advances_150 (by decide) (fun c_7 => ?_) (fun c_7 => ?_)
                  · skip
                    refine lv_iconst (v := 4) hx hb dX10_advances_172 (by decide) ?_
                    refine lv_goto (tgt := 177) hx hb dX10_advances_173 (by decide) ?_
                    refine gp_X10_83 C hW (by decide) rfl dX10_advances_177 (fun H locs hW => ?_)
                    rw [mPS_5] at hW
                    refine lv_goto (tgt := 224) hx hb dX10_advances_180 (by decide) ?_
                    exact g_vret C hr hlk hW dX10_advances_224 (by rw [mAdvS, ← hK]; rw [rTokE, rTokK, rTokV, if_pos c_2, if_pos c_2, if_pos c_2, if_pos c_3, if_pos c_3, if_pos c_3, ← hE, ← hV, if_pos c_7]) (rfl)
                  · skip
                    refine lv_iload_n hx hb dX10_advances_153 rfl (lv_at hl 0 rfl) ?_
                    refine lv_bipush (v := 48) hx hb dX10_advances_154 (by decide) ?_
                    refine lv_icmp_ne (tgt := 176) hx hb dX10_advances_156 (by decide) (fun c_8 => ?_) (fun c_8 => ?_)
                    · skip
                      refine lv_iconst (v := 2) hx hb dX10_advances_176 (by decide) ?_
                      refine gp_X10_83 C hW (by decide) rfl dX10_advances_177 (fun H locs hW => ?_)
                      rw [mPS_5] at hW
                      refine lv_goto (tgt := 224) hx hb dX10_advances_180 (by decide) ?_
                      exact g_vret C hr hlk hW dX10_advances_224 (by rw [mAdvS, ← hK]; rw [rTokE, rTokK, rTokV, if_pos c_2, if_pos c_2, if_pos c_2, if_pos c_3, if_pos c_3, if_pos c_3, ← hE, ← hV, if_neg c_7, if_neg c_8]) (rfl)
                    · skip
                      refine lv_aload_n hx hb dX10_advances_159 rfl (lv_at hl 1 rfl) ?_
                      refine gf_X10_73 (v := nI e_) C hW (by decide) rfl rfl dX10_advances_160 ?_
                      refine lv_aload_n hx hb dX10_advances_163 rfl (lv_at hl 1 rfl) ?_
                      refine gf_X10_80 (v := nI k_) C hW (by decide) rfl rfl dX10_advances_164 ?_
                      refine lv_isub hx hb dX10_advances_167 ?_
                      refine lv_iconst (v := 1) hx hb dX10_advances_168 (by decide) ?_
                      refine lv_icmp_le (tgt := 176) hx hb dX10_advances_169 (by decide) (fun c_9 => ?_) (fun c_9 => ?_)
                      · skip
                        refine lv_iconst (v := 2) hx hb dX10_advances_176 (by decide) ?_
                        refine gp_X10_83 C hW (by decide) rfl dX10_advances_177 (fun H locs hW => ?_)
                        rw [mPS_5] at hW
                        refine lv_goto (tgt := 224) hx hb dX10_advances_180 (by decide) ?_
                        exact g_vret C hr hlk hW dX10_advances_224 (by rw [mAdvS, ← hK]; rw [rTokE, rTokK, rTokV, if_pos c_2, if_pos c_2, if_pos c_2, if_pos c_3, if_pos c_3, if_pos c_3, ← hE, ← hV, if_neg c_7, if_pos c_8, if_pos c_9]) (rfl)
                      · skip
                        refine lv_iconst (v := 4) hx hb dX10_advances_172 (by decide) ?_
                        refine lv_goto (tgt := 177) hx hb dX10_advances_173 (by decide) ?_
                        refine gp_X10_83 C hW (by decide) rfl dX10_advances_177 (fun H locs hW => ?_)
                        rw [mPS_5] at hW
                        refine lv_goto (tgt := 224) hx hb dX10_advances_180 (by decide) ?_
                        exact g_vret C hr hlk hW dX10_advances_224 (by rw [mAdvS, ← hK]; rw [rTokE, rTokK, rTokV, if_pos c_2, if_pos c_2, if_pos c_2, if_pos c_3, if_pos c_3, if_pos c_3, ← hE, ← hV, if_neg c_7, if_pos c_8, if_neg c_9]) (rfl)
                · skip
                  replace c_6 : (mIn (rLet (σ 97) t e_) 48 57) = true := bI_ne0.mp c_6
                  exact absurd c_6 (by rw [show e_ = t by omega, rLet_t]; decide)
              | succ n_ ih71 =>
                intro e_ x_ H locs ls hm hq1 hq2 hW hl
                refine lv_aload_n hx hb dX10_advances_71 rfl (lv_at hl 1 rfl) ?_
                refine lv_aload_n hx hb dX10_advances_72 rfl (lv_at hl 1 rfl) ?_
                refine gf_X10_73 (v := nI e_) C hW (by decide) rfl rfl dX10_advances_73 ?_
                refine g_callvI (r := rLet (σ 97) t e_) (σ' := mPS σ (nI e_) (σ 96 5) (nI k_) x_) (rest := []) (As := [.int (nI e_)]) C hW kv_X10_76 96 (by decide) (gL_10 rfl) rfl (m_letterAt l G (mPS σ (nI e_) (σ 96 5) (nI k_) x_) τ e_ (by omega) t ht ht2) ⟨Nat.le_of_ble_eq_true rfl, Nat.le_of_ble_eq_true rfl⟩ ⟨Nat.le_refl _, Nat.le_refl _⟩ rfl hl.1 rfl (Nat.le_of_ble_eq_true rfl) dX10_advances_76 (fun H locs hW => ?_)
                refine lv_bipush (v := 48) hx hb dX10_advances_79 (by decide) ?_
                refine lv_bipush (v := 57) hx hb dX10_advances_81 (by decide) ?_
                refine g_callsI (r := bI (mIn (rLet (σ 97) t e_) 48 57)) (σ' := mPS σ (nI e_) (σ 96 5) (nI k_) x_) (rest := []) (As := [.int (rLet (σ 97) t e_), .int 48, .int 57]) C hW ks_X10_66 (m_in l G (mPS σ (nI e_) (σ 96 5) (nI k_) x_) τ (rLet (σ 97) t e_) 48 57) ⟨Nat.le_of_ble_eq_true rfl, Nat.le_of_ble_eq_true rfl⟩ ⟨Nat.le_refl _, Nat.le_refl _⟩ rfl hl.1 rfl (Nat.le_of_ble_eq_true rfl) dX10_advances_83 (fun H locs hW => ?_)
                refine lv_if_eq (tgt := 142) hx hb dX10_advances_86 (by decide) (fun c_10 => ?_) (fun c_10 => ?_)
                · skip
                  replace c_10 : (mIn (rLet (σ 97) t e_) 48 57) = false := bI_eq0.mp c_10
                  have hE : e_ = rNumE (σ 97) t (t - k_) k_ := by rw [← hq1]; rw [rNumE, if_neg (bneg c_10)]
                  have hV : x_ = rNumV (σ 97) t (t - k_) 0 k_ := by rw [← hq2]; rw [rNumV, if_neg (bneg c_10)]
                  refine lv_aload_n hx hb dX10_advances_142 rfl (lv_at hl 1 rfl) ?_
                  refine lv_aload_n hx hb dX10_advances_143 rfl (lv_at hl 1 rfl) ?_
                  refine gf_X10_86 (v := x_) C hW (by decide) rfl rfl dX10_advances_144 ?_
                  refine lv_sipush (v := 239) hx hb dX10_advances_147 (by decide) ?_
                  refine lv_icmp_gt (tgt := 172) hx hb dX10_advances_150 (by decide) (fun c_11 => ?_) (fun c_11 => ?_)
                  · skip
                    refine lv_iconst (v := 4) hx hb dX10_advances_172 (by decide) ?_
                    refine lv_goto (tgt := 177) hx hb dX10_advances_173 (by decide) ?_
                    refine gp_X10_83 C hW (by decide) rfl dX10_advances_177 (fun H locs hW => ?_)
                    rw [mPS_5] at hW
                    refine lv_goto (tgt := 224) hx hb dX10_advances_180 (by decide) ?_
                    exact g_vret C hr hlk hW dX10_advances_224 (by rw [mAdvS, ← hK]; rw [rTokE, rTokK, rTokV, if_pos c_2, if_pos c_2, if_pos c_2, if_pos c_3, if_pos c_3, if_pos c_3, ← hE, ← hV, if_pos c_11]) (rfl)
                  · skip
                    refine lv_iload_n hx hb dX10_advances_153 rfl (lv_at hl 0 rfl) ?_
                    refine lv_bipush (v := 48) hx hb dX10_advances_154 (by decide) ?_
                    refine lv_icmp_ne (tgt := 176) hx hb dX10_advances_156 (by decide) (fun c_12 => ?_) (fun c_12 => ?_)
                    · skip
                      refine lv_iconst (v := 2) hx hb dX10_advances_176 (by decide) ?_
                      refine gp_X10_83 C hW (by decide) rfl dX10_advances_177 (fun H locs hW => ?_)
                      rw [mPS_5] at hW
                      refine lv_goto (tgt := 224) hx hb dX10_advances_180 (by decide) ?_
                      exact g_vret C hr hlk hW dX10_advances_224 (by rw [mAdvS, ← hK]; rw [rTokE, rTokK, rTokV, if_pos c_2, if_pos c_2, if_pos c_2, if_pos c_3, if_pos c_3, if_pos c_3, ← hE, ← hV, if_neg c_11, if_neg c_12]) (rfl)
                    · skip
                      refine lv_aload_n hx hb dX10_advances_159 rfl (lv_at hl 1 rfl) ?_
                      refine gf_X10_73 (v := nI e_) C hW (by decide) rfl rfl dX10_advances_160 ?_
                      refine lv_aload_n hx hb dX10_advances_163 rfl (lv_at hl 1 rfl) ?_
                      refine gf_X10_80 (v := nI k_) C hW (by decide) rfl rfl dX10_advances_164 ?_
                      refine lv_isub hx hb dX10_advances_167 ?_
                      refine lv_iconst (v := 1) hx hb dX10_advances_168 (by decide) ?_
                      refine lv_icmp_le (tgt := 176) hx hb dX10_advances_169 (by decide) (fun c_13 => ?_) (fun c_13 => ?_)
                      · skip
                        refine lv_iconst (v := 2) hx hb dX10_advances_176 (by decide) ?_
                        refine gp_X10_83 C hW (by decide) rfl dX10_advances_177 (fun H locs hW => ?_)
                        rw [mPS_5] at hW
                        refine lv_goto (tgt := 224) hx hb dX10_advances_180 (by decide) ?_
                        exact g_vret C hr hlk hW dX10_advances_224 (by rw [mAdvS, ← hK]; rw [rTokE, rTokK, rTokV, if_pos c_2, if_pos c_2, if_pos c_2, if_pos c_3, if_pos c_3, if_pos c_3, ← hE, ← hV, if_neg c_11, if_pos c_12, if_pos c_13]) (rfl)
                      · skip
                        refine lv_iconst (v := 4) hx hb dX10_advances_172 (by decide) ?_
                        refine lv_goto (tgt := 177) hx hb dX10_advances_173 (by decide) ?_
                        refine gp_X10_83 C hW (by decide) rfl dX10_advances_177 (fun H locs hW => ?_)
                        rw [mPS_5] at hW
                        refine lv_goto (tgt := 224) hx hb dX10_advances_180 (by decide) ?_
                        exact g_vret C hr hlk hW dX10_advances_224 (by rw [mAdvS, ← hK]; rw [rTokE, rTokK, rTokV, if_pos c_2, if_pos c_2, if_pos c_2, if_pos c_3, if_pos c_3, if_pos c_3, ← hE, ← hV, if_neg c_11, if_pos c_12, if_neg c_13]) (rfl)
                · skip
                  replace c_10 : (mIn (rLet (σ 97) t e_) 48 57) = true := bI_ne0.mp c_10
                  refine lv_aload_n hx hb dX10_advances_89 rfl (lv_at hl 1 rfl) ?_
                  refine lv_aload_n hx hb dX10_advances_90 rfl (lv_at hl 1 rfl) ?_
                  refine gf_X10_86 (v := x_) C hW (by decide) rfl rfl dX10_advances_91 ?_
                  refine lv_sipush (v := 239) hx hb dX10_advances_94 (by decide) ?_
                  refine lv_icmp_le (tgt := 107) hx hb dX10_advances_97 (by decide) (fun c_14 => ?_) (fun c_14 => ?_)
                  · skip
                    refine lv_bipush (v := 10) hx hb dX10_advances_107 (by decide) ?_
                    refine lv_aload_n hx hb dX10_advances_109 rfl (lv_at hl 1 rfl) ?_
                    refine gf_X10_86 (v := x_) C hW (by decide) rfl rfl dX10_advances_110 ?_
                    refine lv_imul hx hb dX10_advances_113 ?_
                    refine lv_aload_n hx hb dX10_advances_114 rfl (lv_at hl 1 rfl) ?_
                    refine lv_aload_n hx hb dX10_advances_115 rfl (lv_at hl 1 rfl) ?_
                    refine gf_X10_73 (v := nI e_) C hW (by decide) rfl rfl dX10_advances_116 ?_
                    refine g_callvI (r := rLet (σ 97) t e_) (σ' := mPS σ (nI e_) (σ 96 5) (nI k_) x_) (rest := [.int (10 * x_), .ref (gAd G 96)]) (As := [.int (nI e_)]) C hW kv_X10_76 96 (by decide) (gL_10 rfl) rfl (m_letterAt l G (mPS σ (nI e_) (σ 96 5) (nI k_) x_) τ e_ (by omega) t ht ht2) ⟨Nat.le_of_ble_eq_true rfl, Nat.le_of_ble_eq_true rfl⟩ ⟨Nat.le_refl _, Nat.le_refl _⟩ rfl hl.1 rfl (Nat.le_of_ble_eq_true rfl) dX10_advances_119 (fun H locs hW => ?_)
                    refine lv_iadd hx hb dX10_advances_122 ?_
                    refine lv_bipush (v := 48) hx hb dX10_advances_123 (by decide) ?_
                    refine lv_isub hx hb dX10_advances_125 ?_
                    refine gp_X10_86 C hW (by decide) rfl dX10_advances_126 (fun H locs hW => ?_)
                    rw [mPS_7] at hW
                    refine lv_aload_n hx hb dX10_advances_129 rfl (lv_at hl 1 rfl) ?_
                    refine lv_dup hx hb dX10_advances_130 rfl ?_
                    refine gf_X10_73 (v := nI e_) C hW (by decide) rfl rfl dX10_advances_131 ?_
                    refine lv_iconst (v := 1) hx hb dX10_advances_134 (by decide) ?_
                    refine lv_iadd hx hb dX10_advances_135 ?_
                    refine gp_X10_73 C hW (by decide) rfl dX10_advances_136 (fun H locs hW => ?_)
                    rw [mPS_4] at hW
                    refine lv_goto (tgt := 71) hx hb dX10_advances_139 (by decide) ?_
                    exact ih71 (e_ + 1) (((10 * x_) + (rLet (σ 97) t e_)) - 48) _ _ _ (by omega) (by rw [← hq1, rNumE, if_pos c_10]) (by rw [← hq2, rNumV, if_pos c_10, if_pos c_14]) (by rw [nI_1] at hW; exact hW) (lv_sub hl [0, 1] rfl)
                  · skip
                    refine lv_aload_n hx hb dX10_advances_100 rfl (lv_at hl 1 rfl) ?_
                    refine gf_X10_86 (v := x_) C hW (by decide) rfl rfl dX10_advances_101 ?_
                    refine lv_goto (tgt := 126) hx hb dX10_advances_104 (by decide) ?_
                    refine gp_X10_86 C hW (by decide) rfl dX10_advances_126 (fun H locs hW => ?_)
                    rw [mPS_7] at hW
                    refine lv_aload_n hx hb dX10_advances_129 rfl (lv_at hl 1 rfl) ?_
                    refine lv_dup hx hb dX10_advances_130 rfl ?_
                    refine gf_X10_73 (v := nI e_) C hW (by decide) rfl rfl dX10_advances_131 ?_
                    refine lv_iconst (v := 1) hx hb dX10_advances_134 (by decide) ?_
                    refine lv_iadd hx hb dX10_advances_135 ?_
                    refine gp_X10_73 C hW (by decide) rfl dX10_advances_136 (fun H locs hW => ?_)
                    rw [mPS_4] at hW
                    refine lv_goto (tgt := 71) hx hb dX10_advances_139 (by decide) ?_
                    exact ih71 (e_ + 1) x_ _ _ _ (by omega) (by rw [← hq1, rNumE, if_pos c_10]) (by rw [← hq2, rNumV, if_pos c_10, if_neg c_14]) (by rw [nI_1] at hW; exact hW) (lv_sub hl [0, 1] rfl)
            exact L71 (t - k_) k_ 0 _ _ _ (by omega) rfl rfl hW (lv_sub hl [0, 1] rfl)
        · skip
          refine lv_aload_n hx hb dX10_advances_47 rfl (lv_at hl 1 rfl) ?_
          refine lv_iconst (v := 0) hx hb dX10_advances_48 (by decide) ?_
          refine gp_X10_83 C hW (by decide) rfl dX10_advances_49 (fun H locs hW => ?_)
          rw [mPS_5] at hW
          refine lv_goto (tgt := 224) hx hb dX10_advances_52 (by decide) ?_
          exact g_vret C hr hlk hW dX10_advances_224 (by rw [mAdvS, ← hK]; rw [rTokE, rTokK, rTokV, if_neg c_2, if_neg c_2, if_neg c_2]) (rfl)
      · skip
        exact absurd c_1 (by rw [show k_ = t by omega, rLet_t]; decide)
    | succ n ih0 =>
      intro k_ H locs ls hm hq hW hl
      refine lv_aload_n hx hb dX10_advances_0 rfl (lv_at hl 0 rfl) ?_
      refine lv_aload_n hx hb dX10_advances_1 rfl (lv_at hl 0 rfl) ?_
      refine gf_X10_73 (v := nI k_) C hW (by decide) rfl rfl dX10_advances_2 ?_
      refine g_callvI (r := rLet (σ 97) t k_) (σ' := mPS σ (nI k_) (σ 96 5) (σ 96 6) (σ 96 7)) (rest := []) (As := [.int (nI k_)]) C hW kv_X10_76 96 (by decide) (gL_10 rfl) rfl (m_letterAt l G (mPS σ (nI k_) (σ 96 5) (σ 96 6) (σ 96 7)) τ k_ (by omega) t ht ht2) ⟨Nat.le_of_ble_eq_true rfl, Nat.le_of_ble_eq_true rfl⟩ ⟨Nat.le_refl _, Nat.le_refl _⟩ rfl hl.1 rfl (Nat.le_of_ble_eq_true rfl) dX10_advances_5 (fun H locs hW => ?_)
      refine lv_bipush (v := 32) hx hb dX10_advances_8 (by decide) ?_
      refine lv_icmp_ne (tgt := 26) hx hb dX10_advances_10 (by decide) (fun c_15 => ?_) (fun c_15 => ?_)
      · skip
        have hK : k_ = mK σ t := by rw [mK, ← hq]; rw [rSkip, if_neg c_15]
        have hKt : k_ ≤ t := by omega
        refine lv_aload_n hx hb dX10_advances_26 rfl (lv_at hl 0 rfl) ?_
        refine lv_aload_n hx hb dX10_advances_27 rfl (lv_at hl 0 rfl) ?_
        refine gf_X10_73 (v := nI k_) C hW (by decide) rfl rfl dX10_advances_28 ?_
        refine gp_X10_80 C hW (by decide) rfl dX10_advances_31 (fun H locs hW => ?_)
        rw [mPS_6] at hW
        refine lv_aload_n hx hb dX10_advances_34 rfl (lv_at hl 0 rfl) ?_
        refine lv_aload_n hx hb dX10_advances_35 rfl (lv_at hl 0 rfl) ?_
        refine gf_X10_73 (v := nI k_) C hW (by decide) rfl rfl dX10_advances_36 ?_
        refine g_callvI (r := rLet (σ 97) t k_) (σ' := mPS σ (nI k_) (σ 96 5) (nI k_) (σ 96 7)) (rest := []) (As := [.int (nI k_)]) C hW kv_X10_76 96 (by decide) (gL_10 rfl) rfl (m_letterAt l G (mPS σ (nI k_) (σ 96 5) (nI k_) (σ 96 7)) τ k_ (by omega) t ht ht2) ⟨Nat.le_of_ble_eq_true rfl, Nat.le_of_ble_eq_true rfl⟩ ⟨Nat.le_refl _, Nat.le_refl _⟩ rfl hl.1 rfl (Nat.le_of_ble_eq_true rfl) dX10_advances_39 (fun H locs hW => ?_)
        refine lv_istore_n (lv' := [(1, .int (rLet (σ 97) t k_)), (0, .ref (gAd G 96))]) hx hb dX10_advances_42 rfl hl (by decide) rfl (fun ls hl => ?_)
        refine lv_iload_n hx hb dX10_advances_43 rfl (lv_at hl 0 rfl) ?_
        refine lv_if_ge (tgt := 55) hx hb dX10_advances_44 (by decide) (fun c_16 => ?_) (fun c_16 => ?_)
        · skip
          refine lv_iload_n hx hb dX10_advances_55 rfl (lv_at hl 0 rfl) ?_
          refine lv_bipush (v := 48) hx hb dX10_advances_56 (by decide) ?_
          refine lv_bipush (v := 57) hx hb dX10_advances_58 (by decide) ?_
          refine g_callsI (r := bI (mIn (rLet (σ 97) t k_) 48 57)) (σ' := mPS σ (nI k_) (σ 96 5) (nI k_) (σ 96 7)) (rest := []) (As := [.int (rLet (σ 97) t k_), .int 48, .int 57]) C hW ks_X10_66 (m_in l G (mPS σ (nI k_) (σ 96 5) (nI k_) (σ 96 7)) τ (rLet (σ 97) t k_) 48 57) ⟨Nat.le_of_ble_eq_true rfl, Nat.le_of_ble_eq_true rfl⟩ ⟨Nat.le_refl _, Nat.le_refl _⟩ rfl hl.1 rfl (Nat.le_of_ble_eq_true rfl) dX10_advances_60 (fun H locs hW => ?_)
          refine lv_if_eq (tgt := 183) hx hb dX10_advances_63 (by decide) (fun c_17 => ?_) (fun c_17 => ?_)
          · skip
            replace c_17 : (mIn (rLet (σ 97) t k_) 48 57) = false := bI_eq0.mp c_17
            refine lv_aload_n hx hb dX10_advances_183 rfl (lv_at hl 1 rfl) ?_
            refine lv_dup hx hb dX10_advances_184 rfl ?_
            refine gf_X10_73 (v := nI k_) C hW (by decide) rfl rfl dX10_advances_185 ?_
            refine lv_iconst (v := 1) hx hb dX10_advances_188 (by decide) ?_
            refine lv_iadd hx hb dX10_advances_189 ?_
            refine gp_X10_73 C hW (by decide) rfl dX10_advances_190 (fun H locs hW => ?_)
            rw [mPS_4] at hW
            refine lv_aload_n hx hb dX10_advances_193 rfl (lv_at hl 1 rfl) ?_
            refine lv_iload_n hx hb dX10_advances_194 rfl (lv_at hl 0 rfl) ?_
            refine gp_X10_86 C hW (by decide) rfl dX10_advances_195 (fun H locs hW => ?_)
            rw [mPS_7] at hW
            refine lv_aload_n hx hb dX10_advances_198 rfl (lv_at hl 1 rfl) ?_
            refine lv_iload_n hx hb dX10_advances_199 rfl (lv_at hl 0 rfl) ?_
            refine lv_bipush (v := 59) hx hb dX10_advances_200 (by decide) ?_
            refine lv_icmp_ne (tgt := 209) hx hb dX10_advances_202 (by decide) (fun c_18 => ?_) (fun c_18 => ?_)
            · skip
              refine lv_iload_n hx hb dX10_advances_209 rfl (lv_at hl 0 rfl) ?_
              refine g_callsI (r := bI (mIsL (rLet (σ 97) t k_))) (σ' := mPS σ ((nI k_) + 1) (σ 96 5) (nI k_) (rLet (σ 97) t k_)) (rest := [.ref (gAd G 96)]) (As := [.int (rLet (σ 97) t k_)]) C hW ks_X10_89 (m_isLetter l G (mPS σ ((nI k_) + 1) (σ 96 5) (nI k_) (rLet (σ 97) t k_)) τ (rLet (σ 97) t k_)) ⟨Nat.le_of_ble_eq_true rfl, Nat.le_of_ble_eq_true rfl⟩ ⟨Nat.le_refl _, Nat.le_refl _⟩ rfl hl.1 rfl (Nat.le_of_ble_eq_true rfl) dX10_advances_210 (fun H locs hW => ?_)
              refine lv_if_eq (tgt := 220) hx hb dX10_advances_213 (by decide) (fun c_19 => ?_) (fun c_19 => ?_)
              · skip
                replace c_19 : (mIsL (rLet (σ 97) t k_)) = false := bI_eq0.mp c_19
                refine lv_iconst (v := 4) hx hb dX10_advances_220 (by decide) ?_
                refine gp_X10_83 C hW (by decide) rfl dX10_advances_221 (fun H locs hW => ?_)
                rw [mPS_5] at hW
                exact g_vret C hr hlk hW dX10_advances_224 (by rw [mAdvS, ← hK]; rw [rTokE, rTokK, rTokV, if_pos c_16, if_pos c_16, if_pos c_16, if_neg (bneg c_17), if_neg (bneg c_17), if_neg (bneg c_17), if_neg c_18, if_neg (bneg c_19), ← nI_1]) (rfl)
              · skip
                replace c_19 : (mIsL (rLet (σ 97) t k_)) = true := bI_ne0.mp c_19
                refine lv_iconst (v := 1) hx hb dX10_advances_216 (by decide) ?_
                refine lv_goto (tgt := 221) hx hb dX10_advances_217 (by decide) ?_
                refine gp_X10_83 C hW (by decide) rfl dX10_advances_221 (fun H locs hW => ?_)
                rw [mPS_5] at hW
                exact g_vret C hr hlk hW dX10_advances_224 (by rw [mAdvS, ← hK]; rw [rTokE, rTokK, rTokV, if_pos c_16, if_pos c_16, if_pos c_16, if_neg (bneg c_17), if_neg (bneg c_17), if_neg (bneg c_17), if_neg c_18, if_pos c_19, ← nI_1]) (rfl)
            · skip
              refine lv_iconst (v := 3) hx hb dX10_advances_205 (by decide) ?_
              refine lv_goto (tgt := 221) hx hb dX10_advances_206 (by decide) ?_
              refine gp_X10_83 C hW (by decide) rfl dX10_advances_221 (fun H locs hW => ?_)
              rw [mPS_5] at hW
              exact g_vret C hr hlk hW dX10_advances_224 (by rw [mAdvS, ← hK]; rw [rTokE, rTokK, rTokV, if_pos c_16, if_pos c_16, if_pos c_16, if_neg (bneg c_17), if_neg (bneg c_17), if_neg (bneg c_17), if_pos c_18, ← nI_1]) (rfl)
          · skip
            replace c_17 : (mIn (rLet (σ 97) t k_) 48 57) = true := bI_ne0.mp c_17
            refine lv_aload_n hx hb dX10_advances_66 rfl (lv_at hl 1 rfl) ?_
            refine lv_iconst (v := 0) hx hb dX10_advances_67 (by decide) ?_
            refine gp_X10_86 C hW (by decide) rfl dX10_advances_68 (fun H locs hW => ?_)
            rw [mPS_7] at hW
            have L71 : ∀ (n_ : Nat) (e_ : Nat) (x_ : Int32) (H : Heap) (locs : List Loc) (ls : Array Slot), n_ + e_ = t → (rNumE (σ 97) t n_ e_ = rNumE (σ 97) t (t - k_) k_) → (rNumV (σ 97) t n_ x_ e_ = rNumV (σ 97) t (t - k_) 0 k_) → gW G s (mPS σ (nI e_) (σ 96 5) (nI k_) x_) τ H locs → lv_has ls 2 [(1, .int (rLet (σ 97) t k_)), (0, .ref (gAd G 96))] → W p l e (gRm 1 22) s m args below meth c H locs 0 0 (MQ below (gQv G (mAdvS σ t) τ) args s 0 0 (gA G)) (F0 m 71 ls []) := by
              intro n_
              induction n_ with
              | zero =>
                intro e_ x_ H locs ls hm hq1 hq2 hW hl
                refine lv_aload_n hx hb dX10_advances_71 rfl (lv_at hl 1 rfl) ?_
                refine lv_aload_n hx hb dX10_advances_72 rfl (lv_at hl 1 rfl) ?_
                refine gf_X10_73 (v := nI e_) C hW (by decide) rfl rfl dX10_advances_73 ?_
                refine g_callvI (r := rLet (σ 97) t e_) (σ' := mPS σ (nI e_) (σ 96 5) (nI k_) x_) (rest := []) (As := [.int (nI e_)]) C hW kv_X10_76 96 (by decide) (gL_10 rfl) rfl (m_letterAt l G (mPS σ (nI e_) (σ 96 5) (nI k_) x_) τ e_ (by omega) t ht ht2) ⟨Nat.le_of_ble_eq_true rfl, Nat.le_of_ble_eq_true rfl⟩ ⟨Nat.le_refl _, Nat.le_refl _⟩ rfl hl.1 rfl (Nat.le_of_ble_eq_true rfl) dX10_advances_76 (fun H locs hW => ?_)
                refine lv_bipush (v := 48) hx hb dX10_advances_79 (by decide) ?_
                refine lv_bipush (v := 57) hx hb dX10_advances_81 (by decide) ?_
                refine g_callsI (r := bI (mIn (rLet (σ 97) t e_) 48 57)) (σ' := mPS σ (nI e_) (σ 96 5) (nI k_) x_) (rest := []) (As := [.int (rLet (σ 97) t e_), .int 48, .int 57]) C hW ks_X10_66 (m_in l G (mPS σ (nI e_) (σ 96 5) (nI k_) x_) τ (rLet (σ 97) t e_) 48 57) ⟨Nat.le_of_ble_eq_true rfl, Nat.le_of_ble_eq_true rfl⟩ ⟨Nat.le_refl _, Nat.le_refl _⟩ rfl hl.1 rfl (Nat.le_of_ble_eq_true rfl) dX10_advances_83 (fun H locs hW => ?_)
                refine lv_if_eq (tgt := 142) hx hb dX10_advances_86 (by decide) (fun c_20 => ?_) (fun c_20 => ?_)
                · skip
                  replace c_20 : (mIn (rLet (σ 97) t e_) 48 57) = false := bI_eq0.mp c_20
                  have hE : e_ = rNumE (σ 97) t (t - k_) k_ := by rw [← hq1]; rfl
                  have hV : x_ = rNumV (σ 97) t (t - k_) 0 k_ := by rw [← hq2]; rfl
                  refine lv_aload_n hx hb dX10_advances_142 rfl (lv_at hl 1 rfl) ?_
                  refine lv_aload_n hx hb dX10_advances_143 rfl (lv_at hl 1 rfl) ?_
                  refine gf_X10_86 (v := x_) C hW (by decide) rfl rfl dX10_advances_144 ?_
                  refine lv_sipush (v := 239) hx hb dX10_advances_147 (by decide) ?_
                  refine lv_icmp_gt (tgt := 172) hx hb dX10_advances_150 (by decide) (fun c_21 => ?_) (fun c_21 => ?_)
                  · skip
                    refine lv_iconst (v := 4) hx hb dX10_advances_172 (by decide) ?_
                    refine lv_goto (tgt := 177) hx hb dX10_advances_173 (by decide) ?_
                    refine gp_X10_83 C hW (by decide) rfl dX10_advances_177 (fun H locs hW => ?_)
                    rw [mPS_5] at hW
                    refine lv_goto (tgt := 224) hx hb dX10_advances_180 (by decide) ?_
                    exact g_vret C hr hlk hW dX10_advances_224 (by rw [mAdvS, ← hK]; rw [rTokE, rTokK, rTokV, if_pos c_16, if_pos c_16, if_pos c_16, if_pos c_17, if_pos c_17, if_pos c_17, ← hE, ← hV, if_pos c_21]) (rfl)
                  · skip
                    refine lv_iload_n hx hb dX10_advances_153 rfl (lv_at hl 0 rfl) ?_
                    refine lv_bipush (v := 48) hx hb dX10_advances_154 (by decide) ?_
                    refine lv_icmp_ne (tgt := 176) hx hb dX10_advances_156 (by decide) (fun c_22 => ?_) (fun c_22 => ?_)
                    · skip
                      refine lv_iconst (v := 2) hx hb dX10_advances_176 (by decide) ?_
                      refine gp_X10_83 C hW (by decide) rfl dX10_advances_177 (fun H locs hW => ?_)
                      rw [mPS_5] at hW
                      refine lv_goto (tgt := 224) hx hb dX10_advances_180 (by decide) ?_
                      exact g_vret C hr hlk hW dX10_advances_224 (by rw [mAdvS, ← hK]; rw [rTokE, rTokK, rTokV, if_pos c_16, if_pos c_16, if_pos c_16, if_pos c_17, if_pos c_17, if_pos c_17, ← hE, ← hV, if_neg c_21, if_neg c_22]) (rfl)
                    · skip
                      refine lv_aload_n hx hb dX10_advances_159 rfl (lv_at hl 1 rfl) ?_
                      refine gf_X10_73 (v := nI e_) C hW (by decide) rfl rfl dX10_advances_160 ?_
                      refine lv_aload_n hx hb dX10_advances_163 rfl (lv_at hl 1 rfl) ?_
                      refine gf_X10_80 (v := nI k_) C hW (by decide) rfl rfl dX10_advances_164 ?_
                      refine lv_isub hx hb dX10_advances_167 ?_
                      refine lv_iconst (v := 1) hx hb dX10_advances_168 (by decide) ?_
                      refine lv_icmp_le (tgt := 176) hx hb dX10_advances_169 (by decide) (fun c_23 => ?_) (fun c_23 => ?_)
                      · skip
                        refine lv_iconst (v := 2) hx hb dX10_advances_176 (by decide) ?_
                        refine gp_X10_83 C hW (by decide) rfl dX10_advances_177 (fun H locs hW => ?_)
                        rw [mPS_5] at hW
                        refine lv_goto (tgt := 224) hx hb dX10_advances_180 (by decide) ?_
                        exact g_vret C hr hlk hW dX10_advances_224 (by rw [mAdvS, ← hK]; rw [rTokE, rTokK, rTokV, if_pos c_16, if_pos c_16, if_pos c_16, if_pos c_17, if_pos c_17, if_pos c_17, ← hE, ← hV, if_neg c_21, if_pos c_22, if_pos c_23]) (rfl)
                      · skip
                        refine lv_iconst (v := 4) hx hb dX10_advances_172 (by decide) ?_
                        refine lv_goto (tgt := 177) hx hb dX10_advances_173 (by decide) ?_
                        refine gp_X10_83 C hW (by decide) rfl dX10_advances_177 (fun H locs hW => ?_)
                        rw [mPS_5] at hW
                        refine lv_goto (tgt := 224) hx hb dX10_advances_180 (by decide) ?_
                        exact g_vret C hr hlk hW dX10_advances_224 (by rw [mAdvS, ← hK]; rw [rTokE, rTokK, rTokV, if_pos c_16, if_pos c_16, if_pos c_16, if_pos c_17, if_pos c_17, if_pos c_17, ← hE, ← hV, if_neg c_21, if_pos c_22, if_neg c_23]) (rfl)
                · skip
                  replace c_20 : (mIn (rLet (σ 97) t e_) 48 57) = true := bI_ne0.mp c_20
                  exact absurd c_20 (by rw [show e_ = t by omega, rLet_t]; decide)
              | succ n_ ih71 =>
                intro e_ x_ H locs ls hm hq1 hq2 hW hl
                refine lv_aload_n hx hb dX10_advances_71 rfl (lv_at hl 1 rfl) ?_
                refine lv_aload_n hx hb dX10_advances_72 rfl (lv_at hl 1 rfl) ?_
                refine gf_X10_73 (v := nI e_) C hW (by decide) rfl rfl dX10_advances_73 ?_
                refine g_callvI (r := rLet (σ 97) t e_) (σ' := mPS σ (nI e_) (σ 96 5) (nI k_) x_) (rest := []) (As := [.int (nI e_)]) C hW kv_X10_76 96 (by decide) (gL_10 rfl) rfl (m_letterAt l G (mPS σ (nI e_) (σ 96 5) (nI k_) x_) τ e_ (by omega) t ht ht2) ⟨Nat.le_of_ble_eq_true rfl, Nat.le_of_ble_eq_true rfl⟩ ⟨Nat.le_refl _, Nat.le_refl _⟩ rfl hl.1 rfl (Nat.le_of_ble_eq_true rfl) dX10_advances_76 (fun H locs hW => ?_)
                refine lv_bipush (v := 48) hx hb dX10_advances_79 (by decide) ?_
                refine lv_bipush (v := 57) hx hb dX10_advances_81 (by decide) ?_
                refine g_callsI (r := bI (mIn (rLet (σ 97) t e_) 48 57)) (σ' := mPS σ (nI e_) (σ 96 5) (nI k_) x_) (rest := []) (As := [.int (rLet (σ 97) t e_), .int 48, .int 57]) C hW ks_X10_66 (m_in l G (mPS σ (nI e_) (σ 96 5) (nI k_) x_) τ (rLet (σ 97) t e_) 48 57) ⟨Nat.le_of_ble_eq_true rfl, Nat.le_of_ble_eq_true rfl⟩ ⟨Nat.le_refl _, Nat.le_refl _⟩ rfl hl.1 rfl (Nat.le_of_ble_eq_true rfl) dX10_advances_83 (fun H locs hW => ?_)
                refine lv_if_eq (tgt := 142) hx hb dX10_advances_86 (by decide) (fun c_24 => ?_) (fun c_24 => ?_)
                · skip
                  replace c_24 : (mIn (rLet (σ 97) t e_) 48 57) = false := bI_eq0.mp c_24
                  have hE : e_ = rNumE (σ 97) t (t - k_) k_ := by rw [← hq1]; rw [rNumE, if_neg (bneg c_24)]
                  have hV : x_ = rNumV (σ 97) t (t - k_) 0 k_ := by rw [← hq2]; rw [rNumV, if_neg (bneg c_24)]
                  refine lv_aload_n hx hb dX10_advances_142 rfl (lv_at hl 1 rfl) ?_
                  refine lv_aload_n hx hb dX10_advances_143 rfl (lv_at hl 1 rfl) ?_
                  refine gf_X10_86 (v := x_) C hW (by decide) rfl rfl dX10_advances_144 ?_
                  refine lv_sipush (v := 239) hx hb dX10_advances_147 (by decide) ?_
                  refine lv_icmp_gt (tgt := 172) hx hb dX10_advances_150 (by decide) (fun c_25 => ?_) (fun c_25 => ?_)
                  · skip
                    refine lv_iconst (v := 4) hx hb dX10_advances_172 (by decide) ?_
                    refine lv_goto (tgt := 177) hx hb dX10_advances_173 (by decide) ?_
                    refine gp_X10_83 C hW (by decide) rfl dX10_advances_177 (fun H locs hW => ?_)
                    rw [mPS_5] at hW
                    refine lv_goto (tgt := 224) hx hb dX10_advances_180 (by decide) ?_
                    exact g_vret C hr hlk hW dX10_advances_224 (by rw [mAdvS, ← hK]; rw [rTokE, rTokK, rTokV, if_pos c_16, if_pos c_16, if_pos c_16, if_pos c_17, if_pos c_17, if_pos c_17, ← hE, ← hV, if_pos c_25]) (rfl)
                  · skip
                    refine lv_iload_n hx hb dX10_advances_153 rfl (lv_at hl 0 rfl) ?_
                    refine lv_bipush (v := 48) hx hb dX10_advances_154 (by decide) ?_
                    refine lv_icmp_ne (tgt := 176) hx hb dX10_advances_156 (by decide) (fun c_26 => ?_) (fun c_26 => ?_)
                    · skip
                      refine lv_iconst (v := 2) hx hb dX10_advances_176 (by decide) ?_
                      refine gp_X10_83 C hW (by decide) rfl dX10_advances_177 (fun H locs hW => ?_)
                      rw [mPS_5] at hW
                      refine lv_goto (tgt := 224) hx hb dX10_advances_180 (by decide) ?_
                      exact g_vret C hr hlk hW dX10_advances_224 (by rw [mAdvS, ← hK]; rw [rTokE, rTokK, rTokV, if_pos c_16, if_pos c_16, if_pos c_16, if_pos c_17, if_pos c_17, if_pos c_17, ← hE, ← hV, if_neg c_25, if_neg c_26]) (rfl)
                    · skip
                      refine lv_aload_n hx hb dX10_advances_159 rfl (lv_at hl 1 rfl) ?_
                      refine gf_X10_73 (v := nI e_) C hW (by decide) rfl rfl dX10_advances_160 ?_
                      refine lv_aload_n hx hb dX10_advances_163 rfl (lv_at hl 1 rfl) ?_
                      refine gf_X10_80 (v := nI k_) C hW (by decide) rfl rfl dX10_advances_164 ?_
                      refine lv_isub hx hb dX10_advances_167 ?_
                      refine lv_iconst (v := 1) hx hb dX10_advances_168 (by decide) ?_
                      refine lv_icmp_le (tgt := 176) hx hb dX10_advances_169 (by decide) (fun c_27 => ?_) (fun c_27 => ?_)
                      · skip
                        refine lv_iconst (v := 2) hx hb dX10_advances_176 (by decide) ?_
                        refine gp_X10_83 C hW (by decide) rfl dX10_advances_177 (fun H locs hW => ?_)
                        rw [mPS_5] at hW
                        refine lv_goto (tgt := 224) hx hb dX10_advances_180 (by decide) ?_
                        exact g_vret C hr hlk hW dX10_advances_224 (by rw [mAdvS, ← hK]; rw [rTokE, rTokK, rTokV, if_pos c_16, if_pos c_16, if_pos c_16, if_pos c_17, if_pos c_17, if_pos c_17, ← hE, ← hV, if_neg c_25, if_pos c_26, if_pos c_27]) (rfl)
                      · skip
                        refine lv_iconst (v := 4) hx hb dX10_advances_172 (by decide) ?_
                        refine lv_goto (tgt := 177) hx hb dX10_advances_173 (by decide) ?_
                        refine gp_X10_83 C hW (by decide) rfl dX10_advances_177 (fun H locs hW => ?_)
                        rw [mPS_5] at hW
                        refine lv_goto (tgt := 224) hx hb dX10_advances_180 (by decide) ?_
                        exact g_vret C hr hlk hW dX10_advances_224 (by rw [mAdvS, ← hK]; rw [rTokE, rTokK, rTokV, if_pos c_16, if_pos c_16, if_pos c_16, if_pos c_17, if_pos c_17, if_pos c_17, ← hE, ← hV, if_neg c_25, if_pos c_26, if_neg c_27]) (rfl)
                · skip
                  replace c_24 : (mIn (rLet (σ 97) t e_) 48 57) = true := bI_ne0.mp c_24
                  refine lv_aload_n hx hb dX10_advances_89 rfl (lv_at hl 1 rfl) ?_
                  refine lv_aload_n hx hb dX10_advances_90 rfl (lv_at hl 1 rfl) ?_
                  refine gf_X10_86 (v := x_) C hW (by decide) rfl rfl dX10_advances_91 ?_
                  refine lv_sipush (v := 239) hx hb dX10_advances_94 (by decide) ?_
                  refine lv_icmp_le (tgt := 107) hx hb dX10_advances_97 (by decide) (fun c_28 => ?_) (fun c_28 => ?_)
                  · skip
                    refine lv_bipush (v := 10) hx hb dX10_advances_107 (by decide) ?_
                    refine lv_aload_n hx hb dX10_advances_109 rfl (lv_at hl 1 rfl) ?_
                    refine gf_X10_86 (v := x_) C hW (by decide) rfl rfl dX10_advances_110 ?_
                    refine lv_imul hx hb dX10_advances_113 ?_
                    refine lv_aload_n hx hb dX10_advances_114 rfl (lv_at hl 1 rfl) ?_
                    refine lv_aload_n hx hb dX10_advances_115 rfl (lv_at hl 1 rfl) ?_
                    refine gf_X10_73 (v := nI e_) C hW (by decide) rfl rfl dX10_advances_116 ?_
                    refine g_callvI (r := rLet (σ 97) t e_) (σ' := mPS σ (nI e_) (σ 96 5) (nI k_) x_) (rest := [.int (10 * x_), .ref (gAd G 96)]) (As := [.int (nI e_)]) C hW kv_X10_76 96 (by decide) (gL_10 rfl) rfl (m_letterAt l G (mPS σ (nI e_) (σ 96 5) (nI k_) x_) τ e_ (by omega) t ht ht2) ⟨Nat.le_of_ble_eq_true rfl, Nat.le_of_ble_eq_true rfl⟩ ⟨Nat.le_refl _, Nat.le_refl _⟩ rfl hl.1 rfl (Nat.le_of_ble_eq_true rfl) dX10_advances_119 (fun H locs hW => ?_)
                    refine lv_iadd hx hb dX10_advances_122 ?_
                    refine lv_bipush (v := 48) hx hb dX10_advances_123 (by decide) ?_
                    refine lv_isub hx hb dX10_advances_125 ?_
                    refine gp_X10_86 C hW (by decide) rfl dX10_advances_126 (fun H locs hW => ?_)
                    rw [mPS_7] at hW
                    refine lv_aload_n hx hb dX10_advances_129 rfl (lv_at hl 1 rfl) ?_
                    refine lv_dup hx hb dX10_advances_130 rfl ?_
                    refine gf_X10_73 (v := nI e_) C hW (by decide) rfl rfl dX10_advances_131 ?_
                    refine lv_iconst (v := 1) hx hb dX10_advances_134 (by decide) ?_
                    refine lv_iadd hx hb dX10_advances_135 ?_
                    refine gp_X10_73 C hW (by decide) rfl dX10_advances_136 (fun H locs hW => ?_)
                    rw [mPS_4] at hW
                    refine lv_goto (tgt := 71) hx hb dX10_advances_139 (by decide) ?_
                    exact ih71 (e_ + 1) (((10 * x_) + (rLet (σ 97) t e_)) - 48) _ _ _ (by omega) (by rw [← hq1, rNumE, if_pos c_24]) (by rw [← hq2, rNumV, if_pos c_24, if_pos c_28]) (by rw [nI_1] at hW; exact hW) (lv_sub hl [0, 1] rfl)
                  · skip
                    refine lv_aload_n hx hb dX10_advances_100 rfl (lv_at hl 1 rfl) ?_
                    refine gf_X10_86 (v := x_) C hW (by decide) rfl rfl dX10_advances_101 ?_
                    refine lv_goto (tgt := 126) hx hb dX10_advances_104 (by decide) ?_
                    refine gp_X10_86 C hW (by decide) rfl dX10_advances_126 (fun H locs hW => ?_)
                    rw [mPS_7] at hW
                    refine lv_aload_n hx hb dX10_advances_129 rfl (lv_at hl 1 rfl) ?_
                    refine lv_dup hx hb dX10_advances_130 rfl ?_
                    refine gf_X10_73 (v := nI e_) C hW (by decide) rfl rfl dX10_advances_131 ?_
                    refine lv_iconst (v := 1) hx hb dX10_advances_134 (by decide) ?_
                    refine lv_iadd hx hb dX10_advances_135 ?_
                    refine gp_X10_73 C hW (by decide) rfl dX10_advances_136 (fun H locs hW => ?_)
                    rw [mPS_4] at hW
                    refine lv_goto (tgt := 71) hx hb dX10_advances_139 (by decide) ?_
                    exact ih71 (e_ + 1) x_ _ _ _ (by omega) (by rw [← hq1, rNumE, if_pos c_24]) (by rw [← hq2, rNumV, if_pos c_24, if_neg c_28]) (by rw [nI_1] at hW; exact hW) (lv_sub hl [0, 1] rfl)
            exact L71 (t - k_) k_ 0 _ _ _ (by omega) rfl rfl hW (lv_sub hl [0, 1] rfl)
        · skip
          refine lv_aload_n hx hb dX10_advances_47 rfl (lv_at hl 1 rfl) ?_
          refine lv_iconst (v := 0) hx hb dX10_advances_48 (by decide) ?_
          refine gp_X10_83 C hW (by decide) rfl dX10_advances_49 (fun H locs hW => ?_)
          rw [mPS_5] at hW
          refine lv_goto (tgt := 224) hx hb dX10_advances_52 (by decide) ?_
          exact g_vret C hr hlk hW dX10_advances_224 (by rw [mAdvS, ← hK]; rw [rTokE, rTokK, rTokV, if_neg c_16, if_neg c_16, if_neg c_16]) (rfl)
      · skip
        refine lv_aload_n hx hb dX10_advances_13 rfl (lv_at hl 0 rfl) ?_
        refine lv_dup hx hb dX10_advances_14 rfl ?_
        refine gf_X10_73 (v := nI k_) C hW (by decide) rfl rfl dX10_advances_15 ?_
        refine lv_iconst (v := 1) hx hb dX10_advances_18 (by decide) ?_
        refine lv_iadd hx hb dX10_advances_19 ?_
        refine gp_X10_73 C hW (by decide) rfl dX10_advances_20 (fun H locs hW => ?_)
        rw [mPS_4] at hW
        refine lv_goto (tgt := 0) hx hb dX10_advances_23 (by decide) ?_
        exact ih0 (k_ + 1) _ _ _ (by omega) (by rw [← hq, rSkip, if_pos c_15]) (by rw [nI_1] at hW; exact hW) (lv_sub hl [0] rfl)
  exact L0 (t - (σ 96 4).toNatClampNeg) ((σ 96 4).toNatClampNeg) _ _ _ (by omega) rfl hW (lv_sub hl [0] rfl)
