/-! ===== the reference: loops over rows ===== -/
/-- n places of cell c2 from o2 on are put into cell c1 from o1 on, one after the other -/
def gcp (c1 c2 o1 o2 : Nat) (σ : gSt) : Nat → gSt
  | 0 => σ
  | k + 1 => gu (gcp c1 c2 o1 o2 σ k) c1 (o1 + k) (gcp c1 c2 o1 o2 σ k c2 (o2 + k))
theorem gu_ne {σ : gSt} {i k c : Nat} {x : Int32} (h : c ≠ i) : gu σ i k x c = σ c := by simp [gu, va_up, h]
theorem gu_at (σ : gSt) (i k c j : Nat) (x : Int32) : gu σ i k x c j = if c = i ∧ j = k then x else σ c j := by
  by_cases h : c = i
  · subst h; by_cases h2 : j = k <;> simp [gu, va_up, upd, h2]
  · simp [gu, va_up, h]
theorem gu_self (σ : gSt) (i k : Nat) : gu σ i k (σ i k) = σ := by
  funext c j
  rw [gu_at]
  split
  · next h => rw [h.1, h.2]
  · rfl
theorem gu_gu (σ : gSt) (i k : Nat) (x y : Int32) : gu (gu σ i k x) i k y = gu σ i k y := by
  funext c j
  simp only [gu_at]
  split <;> rfl
theorem gcp_ne {c1 c2 o1 o2 : Nat} {σ : gSt} {c : Nat} (h : c ≠ c1) : ∀ n, gcp c1 c2 o1 o2 σ n c = σ c
  | 0 => rfl
  | n + 1 => by rw [gcp, gu_ne h, gcp_ne h n]
theorem gcp_at {c1 c2 o1 o2 : Nat} {σ : gSt} (hc : c1 ≠ c2 ∨ o1 ≤ o2) : ∀ (n j : Nat), gcp c1 c2 o1 o2 σ n c1 j = if o1 ≤ j ∧ j < o1 + n then σ c2 (o2 + (j - o1)) else σ c1 j
  | 0, j => by simp [gcp]; intro a b; omega
  | n + 1, j => by
    rw [gcp, gu_at]
    by_cases hj : j = o1 + n
    · subst hj
      rw [if_pos ⟨rfl, rfl⟩, if_pos ⟨by omega, by omega⟩, show o1 + n - o1 = n by omega]
      by_cases e : c1 = c2
      · subst e
        rw [gcp_at hc n, if_neg (by rintro ⟨a, b⟩; rcases hc with q | q <;> omega)]
      · rw [gcp_ne (Ne.symm e)]
    · rw [if_neg (fun q => hj q.2), gcp_at hc n]
      by_cases hq : o1 ≤ j ∧ j < o1 + n
      · rw [if_pos hq, if_pos ⟨hq.1, by omega⟩]
      · rw [if_neg hq, if_neg (fun q => hq ⟨q.1, by omega⟩)]
/-- the first of the next n minutes with P -/
def rFirst (P : Nat → Bool) : Nat → Nat → Int32
  | 0, _ => -9
  | n + 1, m => if P m = true then nI m else rFirst P n (m + 1)
/-- whether none of the next n minutes has P -/
def rNone (P : Nat → Bool) : Nat → Nat → Bool
  | 0, _ => true
  | n + 1, m => if P m = true then false else rNone P n (m + 1)
def rCount (P : Nat → Bool) (m : Nat) : Nat → Int32
  | 0 => 0
  | i + 1 => if P (m + i) = true then rCount P m i + 1 else rCount P m i
def rFst (P : Nat → Bool) (m : Nat) : Nat → Int32
  | 0 => -9
  | i + 1 => if P (m + i) = true then (if rCount P m i = 0 then nI (m + i) else rFst P m i) else rFst P m i
def rSum (sr : Nat → Int32) : Nat → Int32
  | 0 => 0
  | p + 1 => rSum sr p + sr (10 + p)
/-- who was tolled for most, looked at from above: i of N seen -/
def rWorst (sr : Nat → Int32) (N : Nat) : Nat → Int32
  | 0 => -9
  | i + 1 => if sr (10 + (N - 1 - i)) ≤ 0 then rWorst sr N i else if rWorst sr N i = -9 then nI (N - 1 - i) else if sr (10 + (N - 1 - i)) < sr (10 + (rWorst sr N i).toNatClampNeg) then rWorst sr N i else nI (N - 1 - i)
theorem rWorst_nat {sr : Nat → Int32} {N : Nat} (hN : N ≤ 5) : ∀ i, i ≤ N → rWorst sr N i = -9 ∨ ∃ j, j < N ∧ rWorst sr N i = nI j
  | 0, _ => Or.inl rfl
  | i + 1, h => by
    rw [rWorst]
    have ih := rWorst_nat (sr := sr) hN i (by omega)
    split
    · exact ih
    · split
      · exact Or.inr ⟨N - 1 - i, by omega, rfl⟩
      · split
        · exact ih
        · exact Or.inr ⟨N - 1 - i, by omega, rfl⟩
def mNotes1 (σ : gSt) (u : Nat) : gSt := if u = 10 then gu (gcp 107 107 0 25 σ 225) 96 20 9 else σ
def mNotes (σ : gSt) (u : Nat) : gSt := gu (gcp 107 104 (25 * (if u = 10 then 9 else u)) 0 (mNotes1 σ u) 25) 96 20 (nI ((if u = 10 then 9 else u) + 1))
theorem mNotes_ne {σ : gSt} {u c : Nat} (h1 : c ≠ 107) (h2 : c ≠ 96) : mNotes σ u c = σ c := by
  rw [mNotes, gu_ne h2, gcp_ne h1, mNotes1]
  split
  · rw [gu_ne h2, gcp_ne h1]
  · rfl
def mWalk (mn : Nat → Int32) (a b : Int32) : Int32 := mn 3 * (if b ≤ a then a - b else b - a)
abbrev mNowS (σ : gSt) : gSt := gu σ 96 25 (σ 104 16)
theorem sh1 : ∀ D, D ≤ 8 → (1 : Int32) <<< (nI D &&& 31) = nI (2 ^ D) := by decide
/-- the reference's search for the fewest: (the best yet, what 'without' is) behind k sets -/
def rSil (fm lt wh sr : Nat → Int32) (fr set wo0 : Int32) (D N mi : Nat) : Nat → Int32 × Int32
  | 0 => (-9, wo0)
  | k + 1 =>
    if nI k &&& sr 16 = 0 then
      (if (rSil fm lt wh sr fr set wo0 D N mi k).1 = -9 ∨ ¬ mOnes (rSil fm lt wh sr fr set wo0 D N mi k).1 8 ≤ mOnes (nI k) 8 then
        ((if rNone (fun m => decide (set &&& (rRings fm lt wh sr fr (sr 16 ||| nI k) (nI m) D N ^^^ -1) = 0)) (240 - mi) mi = true then nI k else (rSil fm lt wh sr fr set wo0 D N mi k).1), sr 16 ||| nI k)
      else rSil fm lt wh sr fr set wo0 D N mi k)
    else rSil fm lt wh sr fr set wo0 D N mi k
abbrev mSil (σ : gSt) (set : Int32) (D N mi : Nat) (k : Nat) : Int32 × Int32 := rSil (σ 102) (σ 103) (σ 101) (σ 104) (σ 98 4) set (σ 96 25) D N mi k
def rFits (fm lt wh sr ho ha hs : Nat → Int32) (fr wo p at_ : Int32) (D : Nat) : Nat → Bool
  | 0 => true
  | e + 1 => rFits fm lt wh sr ho ha hs fr wo p at_ D e && (!decide (ho e = p) || (rRung fm lt wh sr fr wo p (ha e) at_ D == decide (hs e = 1)))
def rCan (fm lt wh sr ho ha hs : Nat → Int32) (fr wo p : Int32) (D E : Nat) : Nat → Int32
  | 0 => 0
  | k + 1 => rCan fm lt wh sr ho ha hs fr wo p D E k ||| (if rFits fm lt wh sr ho ha hs fr wo p (nI k) D E = true then 1 <<< (nI k &&& 31) else 0)
def rTraceAdd (a : Int32) : Int64 := if a = 0 then 1 else if a = 1 then 11 else if a = 2 then 101 else if a = 3 then 1011 else if a = 4 then 10101 else 100001
/-- how often the duties alone ring: (10 to the power, x to the power), d duties seen -/
def rOdds (fm lt wh sr : Nat → Int32) (fr p mi at_ x : Int32) (D : Nat) : Nat → Int32 × Int32
  | 0 => (1, 1)
  | d + 1 => if rRung fm lt wh sr fr (255 &&& ((1 <<< (nI d &&& 31)) ^^^ -1) ||| sr 16) p mi at_ D = true then ((rOdds fm lt wh sr fr p mi at_ x D d).1 * 10, (rOdds fm lt wh sr fr p mi at_ x D d).2 * x) else rOdds fm lt wh sr fr p mi at_ x D d
abbrev mOdds (σ : gSt) (p mi at_ x : Int32) (D d : Nat) : Int32 × Int32 := rOdds (σ 102) (σ 103) (σ 101) (σ 104) (σ 98 4) p mi at_ x D d
set_option maxHeartbeats 4000000 in
set_option maxRecDepth 100000 in
theorem m_isPerson (l : Launch) (G : gG) (σ : gSt) (τ : Nat → Int64) (a0 : Int32) : gI l yX10_isPerson cX10_isPerson 2 (some .boolean) 1 22 G [.ref (gAd G 96), .int a0] σ τ (bI (mIn a0 0 (σ 98 1 - 1))) σ τ := by
  refine gMet_of (by decide) (Nat.le_of_ble_eq_true rfl) ?_
  intro p e s m args below meth c C hr hlk ls hl hW
  have hx := C.1
  have hb := C.2.1
  have hl : lv_has ls 2 [(0, .ref (gAd G 96)), (1, .int a0)] := hl
  refine lv_iload_n hx hb dX10_isPerson_0 rfl (lv_at hl 1 rfl) ?_
  refine lv_iconst (v := 0) hx hb dX10_isPerson_1 (by decide) ?_
  refine lv_aload_n hx hb dX10_isPerson_2 rfl (lv_at hl 0 rfl) ?_
  refine gf_X10_13 C hW (by decide) rfl dX10_isPerson_3 ?_
  refine lv_iconst (v := 1) hx hb dX10_isPerson_6 (by decide) ?_
  refine g_ald (v := σ 98 1) 1 C hW (by decide) rfl rfl (by decide) (by decide) rfl dX10_isPerson_7 ?_
  refine lv_iconst (v := 1) hx hb dX10_isPerson_8 (by decide) ?_
  refine lv_isub hx hb dX10_isPerson_9 ?_
  refine g_callsI (rest := []) (As := [.int a0, .int 0, .int ((σ 98 1) - 1)]) C hW ks_X10_66 (m_in l G σ τ a0 0 ((σ 98 1) - 1)) ⟨Nat.le_of_ble_eq_true rfl, Nat.le_of_ble_eq_true rfl⟩ ⟨Nat.le_refl _, Nat.le_refl _⟩ rfl hl.1 rfl (Nat.le_of_ble_eq_true rfl) dX10_isPerson_10 (fun H locs hW => ?_)
  exact g_zret C hr hlk hW dX10_isPerson_13 (bI_nar _) (rfl) (rfl) (rfl)
set_option maxHeartbeats 4000000 in
set_option maxRecDepth 100000 in
theorem m_isDuty (l : Launch) (G : gG) (σ : gSt) (τ : Nat → Int64) (a0 : Int32) : gI l yX10_isDuty cX10_isDuty 2 (some .boolean) 1 22 G [.ref (gAd G 96), .int a0] σ τ (bI (mIn a0 0 (σ 98 2 - 1))) σ τ := by
  refine gMet_of (by decide) (Nat.le_of_ble_eq_true rfl) ?_
  intro p e s m args below meth c C hr hlk ls hl hW
  have hx := C.1
  have hb := C.2.1
  have hl : lv_has ls 2 [(0, .ref (gAd G 96)), (1, .int a0)] := hl
  refine lv_iload_n hx hb dX10_isDuty_0 rfl (lv_at hl 1 rfl) ?_
  refine lv_iconst (v := 0) hx hb dX10_isDuty_1 (by decide) ?_
  refine lv_aload_n hx hb dX10_isDuty_2 rfl (lv_at hl 0 rfl) ?_
  refine gf_X10_13 C hW (by decide) rfl dX10_isDuty_3 ?_
  refine lv_iconst (v := 2) hx hb dX10_isDuty_6 (by decide) ?_
  refine g_ald (v := σ 98 2) 2 C hW (by decide) rfl rfl (by decide) (by decide) rfl dX10_isDuty_7 ?_
  refine lv_iconst (v := 1) hx hb dX10_isDuty_8 (by decide) ?_
  refine lv_isub hx hb dX10_isDuty_9 ?_
  refine g_callsI (rest := []) (As := [.int a0, .int 0, .int ((σ 98 2) - 1)]) C hW ks_X10_66 (m_in l G σ τ a0 0 ((σ 98 2) - 1)) ⟨Nat.le_of_ble_eq_true rfl, Nat.le_of_ble_eq_true rfl⟩ ⟨Nat.le_refl _, Nat.le_refl _⟩ rfl hl.1 rfl (Nat.le_of_ble_eq_true rfl) dX10_isDuty_10 (fun H locs hW => ?_)
  exact g_zret C hr hlk hW dX10_isDuty_13 (bI_nar _) (rfl) (rfl) (rfl)
set_option maxHeartbeats 4000000 in
set_option maxRecDepth 100000 in
theorem m_isPlace (l : Launch) (G : gG) (σ : gSt) (τ : Nat → Int64) (a0 : Int32) : gI l yX10_isPlace cX10_isPlace 2 (some .boolean) 1 22 G [.ref (gAd G 96), .int a0] σ τ (bI (mIn a0 0 (σ 98 0 - 1))) σ τ := by
  refine gMet_of (by decide) (Nat.le_of_ble_eq_true rfl) ?_
  intro p e s m args below meth c C hr hlk ls hl hW
  have hx := C.1
  have hb := C.2.1
  have hl : lv_has ls 2 [(0, .ref (gAd G 96)), (1, .int a0)] := hl
  refine lv_iload_n hx hb dX10_isPlace_0 rfl (lv_at hl 1 rfl) ?_
  refine lv_iconst (v := 0) hx hb dX10_isPlace_1 (by decide) ?_
  refine lv_aload_n hx hb dX10_isPlace_2 rfl (lv_at hl 0 rfl) ?_
  refine gf_X10_13 C hW (by decide) rfl dX10_isPlace_3 ?_
  refine lv_iconst (v := 0) hx hb dX10_isPlace_6 (by decide) ?_
  refine g_ald (v := σ 98 0) 0 C hW (by decide) rfl rfl (by decide) (by decide) rfl dX10_isPlace_7 ?_
  refine lv_iconst (v := 1) hx hb dX10_isPlace_8 (by decide) ?_
  refine lv_isub hx hb dX10_isPlace_9 ?_
  refine g_callsI (rest := []) (As := [.int a0, .int 0, .int ((σ 98 0) - 1)]) C hW ks_X10_66 (m_in l G σ τ a0 0 ((σ 98 0) - 1)) ⟨Nat.le_of_ble_eq_true rfl, Nat.le_of_ble_eq_true rfl⟩ ⟨Nat.le_refl _, Nat.le_refl _⟩ rfl hl.1 rfl (Nat.le_of_ble_eq_true rfl) dX10_isPlace_10 (fun H locs hW => ?_)
  exact g_zret C hr hlk hW dX10_isPlace_13 (bI_nar _) (rfl) (rfl) (rfl)
set_option maxHeartbeats 4000000 in
set_option maxRecDepth 100000 in
theorem m_isSet (l : Launch) (G : gG) (σ : gSt) (τ : Nat → Int64) (a0 : Int32) : gI l yX10_isSet cX10_isSet 2 (some .boolean) 1 22 G [.ref (gAd G 96), .int a0] σ τ (bI (mIn a0 0 ((1 <<< (σ 98 1 &&& 31)) - 1))) σ τ := by
  refine gMet_of (by decide) (Nat.le_of_ble_eq_true rfl) ?_
  intro p e s m args below meth c C hr hlk ls hl hW
  have hx := C.1
  have hb := C.2.1
  have hl : lv_has ls 2 [(0, .ref (gAd G 96)), (1, .int a0)] := hl
  refine lv_iload_n hx hb dX10_isSet_0 rfl (lv_at hl 1 rfl) ?_
  refine lv_iconst (v := 0) hx hb dX10_isSet_1 (by decide) ?_
  refine lv_iconst (v := 1) hx hb dX10_isSet_2 (by decide) ?_
  refine lv_aload_n hx hb dX10_isSet_3 rfl (lv_at hl 0 rfl) ?_
  refine gf_X10_13 C hW (by decide) rfl dX10_isSet_4 ?_
  refine lv_iconst (v := 1) hx hb dX10_isSet_7 (by decide) ?_
  refine g_ald (v := σ 98 1) 1 C hW (by decide) rfl rfl (by decide) (by decide) rfl dX10_isSet_8 ?_
  refine lv_ishl hx hb dX10_isSet_9 ?_
  refine lv_iconst (v := 1) hx hb dX10_isSet_10 (by decide) ?_
  refine lv_isub hx hb dX10_isSet_11 ?_
  refine g_callsI (rest := []) (As := [.int a0, .int 0, .int ((1 <<< ((σ 98 1) &&& 31)) - 1)]) C hW ks_X10_66 (m_in l G σ τ a0 0 ((1 <<< ((σ 98 1) &&& 31)) - 1)) ⟨Nat.le_of_ble_eq_true rfl, Nat.le_of_ble_eq_true rfl⟩ ⟨Nat.le_refl _, Nat.le_refl _⟩ rfl hl.1 rfl (Nat.le_of_ble_eq_true rfl) dX10_isSet_12 (fun H locs hW => ?_)
  exact g_zret C hr hlk hW dX10_isSet_15 (bI_nar _) (rfl) (rfl) (rfl)
set_option maxHeartbeats 4000000 in
set_option maxRecDepth 100000 in
theorem m_asNow (l : Launch) (G : gG) (σ : gSt) (τ : Nat → Int64) : gV l yX10_asNow cX10_asNow 1 (none : Option Jvm.ClassFile.FieldType) 0 0 G [.ref (gAd G 96)] σ τ (mNowS σ) τ := by
  refine gMet_of (by decide) (Nat.le_of_ble_eq_true rfl) ?_
  intro p e s m args below meth c C hr hlk ls hl hW
  have hx := C.1
  have hb := C.2.1
  have hl : lv_has ls 1 [(0, .ref (gAd G 96))] := hl
  refine lv_aload_n hx hb dX10_asNow_0 rfl (lv_at hl 0 rfl) ?_
  refine lv_aload_n hx hb dX10_asNow_1 rfl (lv_at hl 0 rfl) ?_
  refine gf_X10_31 C hW (by decide) rfl dX10_asNow_2 ?_
  refine lv_bipush (v := 16) hx hb dX10_asNow_5 (by decide) ?_
  refine g_ald (v := σ 104 16) 16 C hW (by decide) rfl rfl (by decide) (by decide) rfl dX10_asNow_7 ?_
  refine gp_X10_127 C hW (by decide) rfl dX10_asNow_8 (fun H locs hW => ?_)
  exact g_vret C hr hlk hW dX10_asNow_11 (rfl) (rfl)
set_option maxHeartbeats 4000000 in
set_option maxRecDepth 100000 in
theorem m_placeIn (l : Launch) (G : gG) (σ : gSt) (τ : Nat → Int64) (a1 : Int32) (k : Nat) (hk : k < 5) : gI l yX10_placeIn cX10_placeIn 3 (some .int) 0 0 G [.ref (gAd G 96), .int (nI k), .int a1] σ τ (rPl (σ 104) k a1) σ τ := by
  refine gMet_of (by decide) (Nat.le_of_ble_eq_true rfl) ?_
  intro p e s m args below meth c C hr hlk ls hl hW
  have hx := C.1
  have hb := C.2.1
  have hl : lv_has ls 3 [(0, .ref (gAd G 96)), (1, .int (nI k)), (2, .int a1)] := hl
  refine lv_aload_n hx hb dX10_placeIn_0 rfl (lv_at hl 0 rfl) ?_
  refine gf_X10_31 C hW (by decide) rfl dX10_placeIn_1 ?_
  refine lv_iconst (v := 5) hx hb dX10_placeIn_4 (by decide) ?_
  refine lv_iload_n hx hb dX10_placeIn_5 rfl (lv_at hl 1 rfl) ?_
  refine lv_iadd hx hb dX10_placeIn_6 ?_
  refine g_ald (v := σ 104 (5 + k)) (5 + k) C hW (by decide) rfl (gadd (rfl : 5 = nI 5) (rfl : nI k = nI k)) (show (5 + k) < 25 by omega) (by decide) rfl dX10_placeIn_7 ?_
  refine lv_iload_n hx hb dX10_placeIn_8 rfl (lv_at hl 2 rfl) ?_
  refine lv_icmp_le (tgt := 17) hx hb dX10_placeIn_9 (by decide) (fun c_1 => ?_) (fun c_1 => ?_)
  · skip
    refine lv_aload_n hx hb dX10_placeIn_17 rfl (lv_at hl 0 rfl) ?_
    refine gf_X10_31 C hW (by decide) rfl dX10_placeIn_18 ?_
    refine lv_iconst (v := 0) hx hb dX10_placeIn_21 (by decide) ?_
    refine lv_iload_n hx hb dX10_placeIn_22 rfl (lv_at hl 1 rfl) ?_
    refine lv_iadd hx hb dX10_placeIn_23 ?_
    refine g_ald (v := σ 104 (0 + k)) (0 + k) C hW (by decide) rfl (gadd (rfl : 0 = nI 0) (rfl : nI k = nI k)) (show (0 + k) < 25 by omega) (by decide) rfl dX10_placeIn_24 ?_
    exact g_iret C hr hlk hW dX10_placeIn_25 (by simp [bI, rPl, c_1]) (rfl) (rfl)
  · skip
    refine lv_bipush (v := (-9)) hx hb dX10_placeIn_12 (by decide) ?_
    refine lv_goto (tgt := 25) hx hb dX10_placeIn_14 (by decide) ?_
    exact g_iret C hr hlk hW dX10_placeIn_25 (by simp [bI, rPl, c_1]) (rfl) (rfl)
set_option maxHeartbeats 4000000 in
set_option maxRecDepth 100000 in
theorem m_ringsIn (l : Launch) (G : gG) (σ : gSt) (τ : Nat → Int64) (a0 : Int32) (D : Nat) (hD : σ 98 2 = nI D) (hD8 : D ≤ 8) (N : Nat) (hN : σ 98 1 = nI N) (hN5 : N ≤ 5) : gI l yX10_ringsIn cX10_ringsIn 4 (some .int) 1 26 G [.ref (gAd G 96), .int a0] σ τ (mRings σ a0 D N) σ τ := by
  refine gMet_of (by decide) (Nat.le_of_ble_eq_true rfl) ?_
  intro p e s m args below meth c C hr hlk ls hl hW
  have hx := C.1
  have hb := C.2.1
  have hl : lv_has ls 4 [(0, .ref (gAd G 96)), (1, .int a0)] := hl
  refine lv_iconst (v := 0) hx hb dX10_ringsIn_0 (by decide) ?_
  refine lv_istore_n (lv' := [(2, .int 0), (0, .ref (gAd G 96)), (1, .int a0)]) hx hb dX10_ringsIn_1 rfl hl (by decide) rfl (fun ls hl => ?_)
  refine lv_iconst (v := 0) hx hb dX10_ringsIn_2 (by decide) ?_
  refine lv_istore_n (lv' := [(3, .int 0), (2, .int 0), (0, .ref (gAd G 96)), (1, .int a0)]) hx hb dX10_ringsIn_3 rfl hl (by decide) rfl (fun ls hl => ?_)
  have L4 : ∀ (n : Nat) (k : Nat) (v : Int32) (H : Heap) (locs : List Loc) (ls : Array Slot), n + k = N → v = mRings σ a0 D k → gW G s σ τ H locs → lv_has ls 4 [(3, .int (nI k)), (2, .int v), (0, .ref (gAd G 96)), (1, .int a0)] → W p l e (gRm 1 26) s m args below meth c H locs 0 0 (MQ below (gQi G (mRings σ a0 D N) σ τ) args s 0 0 (gA G)) (F0 m 4 ls []) := by
    intro n
    induction n with
    | zero =>
      intro k v H locs ls hm hv hW hl
      refine lv_iload_n hx hb dX10_ringsIn_4 rfl (lv_at hl 0 rfl) ?_
      refine lv_aload_n hx hb dX10_ringsIn_5 rfl (lv_at hl 2 rfl) ?_
      refine gf_X10_13 C hW (by decide) rfl dX10_ringsIn_6 ?_
      refine lv_iconst (v := 1) hx hb dX10_ringsIn_9 (by decide) ?_
      refine g_ald (v := nI N) 1 C hW (by decide) rfl rfl (by decide) (by decide) hN dX10_ringsIn_10 ?_
      refine lv_icmp_ge (tgt := 53) hx hb dX10_ringsIn_11 (by decide) (fun _ => ?_) (fun zz => absurd (show nI N ≤ nI k from nI_le (by omega) (by omega)) zz)
      refine lv_iload_n hx hb dX10_ringsIn_53 rfl (lv_at hl 1 rfl) ?_
      exact g_iret C hr hlk hW dX10_ringsIn_54 (by rw [hv, show k = N by omega]) (rfl) (rfl)
    | succ n ih =>
      intro k v H locs ls hm hv hW hl
      refine lv_iload_n hx hb dX10_ringsIn_4 rfl (lv_at hl 0 rfl) ?_
      refine lv_aload_n hx hb dX10_ringsIn_5 rfl (lv_at hl 2 rfl) ?_
      refine gf_X10_13 C hW (by decide) rfl dX10_ringsIn_6 ?_
      refine lv_iconst (v := 1) hx hb dX10_ringsIn_9 (by decide) ?_
      refine g_ald (v := nI N) 1 C hW (by decide) rfl rfl (by decide) (by decide) hN dX10_ringsIn_10 ?_
      refine lv_icmp_ge (tgt := 53) hx hb dX10_ringsIn_11 (by decide) (fun zz => absurd zz (show ¬ nI N ≤ nI k from nI_ge (by omega) (by omega))) (fun _ => ?_)
      refine lv_iload_n hx hb dX10_ringsIn_14 rfl (lv_at hl 1 rfl) ?_
      refine lv_aload_n hx hb dX10_ringsIn_15 rfl (lv_at hl 2 rfl) ?_
      refine lv_iload_n hx hb dX10_ringsIn_16 rfl (lv_at hl 0 rfl) ?_
      refine lv_iload_n hx hb dX10_ringsIn_17 rfl (lv_at hl 3 rfl) ?_
      refine lv_aload_n hx hb dX10_ringsIn_18 rfl (lv_at hl 2 rfl) ?_
      refine lv_iload_n hx hb dX10_ringsIn_19 rfl (lv_at hl 0 rfl) ?_
      refine lv_iload_n hx hb dX10_ringsIn_20 rfl (lv_at hl 3 rfl) ?_
      refine lv_aload_n hx hb dX10_ringsIn_21 rfl (lv_at hl 2 rfl) ?_
      refine gf_X10_31 C hW (by decide) rfl dX10_ringsIn_22 ?_
      refine lv_bipush (v := 15) hx hb dX10_ringsIn_25 (by decide) ?_
      refine g_ald (v := σ 104 15) 15 C hW (by decide) rfl rfl (by decide) (by decide) rfl dX10_ringsIn_27 ?_
      refine lv_isub hx hb dX10_ringsIn_28 ?_
      refine g_callvI (rest := [.int a0, .int (nI k), .ref (gAd G 96), .int v]) (As := [.int (nI k), .int (a0 - (σ 104 15))]) C hW kv_X10_130 96 (by decide) (gL_10 rfl) rfl (m_placeIn l G σ τ (a0 - (σ 104 15)) k (by omega)) ⟨Nat.le_of_ble_eq_true rfl, Nat.le_of_ble_eq_true rfl⟩ ⟨Nat.le_refl _, Nat.le_refl _⟩ rfl hl.1 rfl (Nat.le_of_ble_eq_true rfl) dX10_ringsIn_29 (fun H locs hW => ?_)
      refine g_callvI (rest := [.int v]) (As := [.int (nI k), .int a0, .int (rPl (σ 104) k (a0 - (σ 104 15)))]) C hW kv_X10_133 96 (by decide) (gL_10 rfl) rfl (m_isRung l G σ τ (nI k) a0 (rPl (σ 104) k (a0 - (σ 104 15))) D (hD) hD8) ⟨Nat.le_of_ble_eq_true rfl, Nat.le_of_ble_eq_true rfl⟩ ⟨Nat.le_refl _, Nat.le_refl _⟩ rfl hl.1 rfl (Nat.le_of_ble_eq_true rfl) dX10_ringsIn_32 (fun H locs hW => ?_)
      refine lv_if_eq (tgt := 44) hx hb dX10_ringsIn_35 (by decide) (fun c_1 => ?_) (fun c_1 => ?_)
      · skip
        replace c_1 : (mRung σ (nI k) a0 (rPl (σ 104) k (a0 - (σ 104 15))) D) = false := bI_eq0.mp c_1
        refine lv_iconst (v := 0) hx hb dX10_ringsIn_44 (by decide) ?_
        refine lv_ior hx hb dX10_ringsIn_45 ?_
        refine lv_istore_n (lv' := [(2, .int (v ||| 0)), (3, .int (nI k)), (0, .ref (gAd G 96)), (1, .int a0)]) hx hb dX10_ringsIn_46 rfl hl (by decide) rfl (fun ls hl => ?_)
        refine lv_iinc (v := nI (k + 1)) (lv' := [(3, .int (nI (k + 1))), (2, .int (v ||| 0)), (0, .ref (gAd G 96)), (1, .int a0)]) hx hb dX10_ringsIn_47 hl (k := 1) rfl (nI_1 _) (by decide) rfl (fun ls hl => ?_)
        refine lv_goto (tgt := 4) hx hb dX10_ringsIn_50 (by decide) ?_
        exact ih (k + 1) (v ||| 0) _ _ _ (by omega) (by rw [hv]; simp [rRings, c_1]) hW (lv_sub hl [0, 1, 2, 3] rfl)
      · skip
        replace c_1 : (mRung σ (nI k) a0 (rPl (σ 104) k (a0 - (σ 104 15))) D) = true := bI_ne0.mp c_1
        refine lv_iconst (v := 1) hx hb dX10_ringsIn_38 (by decide) ?_
        refine lv_iload_n hx hb dX10_ringsIn_39 rfl (lv_at hl 0 rfl) ?_
        refine lv_ishl hx hb dX10_ringsIn_40 ?_
        refine lv_goto (tgt := 45) hx hb dX10_ringsIn_41 (by decide) ?_
        refine lv_ior hx hb dX10_ringsIn_45 ?_
        refine lv_istore_n (lv' := [(2, .int (v ||| (1 <<< ((nI k) &&& 31)))), (3, .int (nI k)), (0, .ref (gAd G 96)), (1, .int a0)]) hx hb dX10_ringsIn_46 rfl hl (by decide) rfl (fun ls hl => ?_)
        refine lv_iinc (v := nI (k + 1)) (lv' := [(3, .int (nI (k + 1))), (2, .int (v ||| (1 <<< ((nI k) &&& 31)))), (0, .ref (gAd G 96)), (1, .int a0)]) hx hb dX10_ringsIn_47 hl (k := 1) rfl (nI_1 _) (by decide) rfl (fun ls hl => ?_)
        refine lv_goto (tgt := 4) hx hb dX10_ringsIn_50 (by decide) ?_
        exact ih (k + 1) (v ||| (1 <<< ((nI k) &&& 31))) _ _ _ (by omega) (by rw [hv]; simp [rRings, c_1]) hW (lv_sub hl [0, 1, 2, 3] rfl)
  exact L4 N 0 0 _ _ _ (by omega) (by first | rfl | simp [bI]) hW (lv_sub hl [0, 1, 2, 3] rfl)
set_option maxHeartbeats 4000000 in
set_option maxRecDepth 100000 in
theorem m_person (l : Launch) (G : gG) (σ : gSt) (τ : Nat → Int64) (a0 a1 : Int32) (D : Nat) (hD : σ 98 2 = nI D) (hD8 : D ≤ 8) (N : Nat) (hN : σ 98 1 = nI N) (hN5 : N ≤ 5) : gI l yX10_person cX10_person 3 (some .int) 2 43 G [.ref (gAd G 96), .int a0, .int a1] σ τ (if mIn a0 0 (σ 98 1 - 1) = true ∧ mIn a1 0 5 = true then (if 3 ≤ a1 then (if a1 = 3 then σ 104 (10 + a0.toNatClampNeg) else if a1 = 5 then σ 99 a0.toNatClampNeg else if ¬ 240 ≤ σ 104 15 ∧ mRung (mNowS σ) a0 (σ 104 15) (rPl (σ 104) a0.toNatClampNeg 0) D = true then 1 else 0) else if a1 = 0 then rPl (σ 104) a0.toNatClampNeg 0 else if a1 = 1 then σ 104 (0 + a0.toNatClampNeg) else σ 104 (5 + a0.toNatClampNeg)) else -1) (if mIn a0 0 (σ 98 1 - 1) = true ∧ mIn a1 0 5 = true then mNowS σ else σ) τ := by
  refine gMet_of (by decide) (Nat.le_of_ble_eq_true rfl) ?_
  intro p e s m args below meth c C hr hlk ls hl hW
  have hx := C.1
  have hb := C.2.1
  have hl : lv_has ls 3 [(0, .ref (gAd G 96)), (1, .int a0), (2, .int a1)] := hl
  refine lv_aload_n hx hb dX10_person_0 rfl (lv_at hl 0 rfl) ?_
  refine lv_iconst (v := 0) hx hb dX10_person_1 (by decide) ?_
  refine gp_X10_62 C hW (by decide) rfl dX10_person_2 (fun H locs hW => ?_)
  refine lv_aload_n hx hb dX10_person_5 rfl (lv_at hl 0 rfl) ?_
  refine lv_iload_n hx hb dX10_person_6 rfl (lv_at hl 1 rfl) ?_
  refine g_callvI (rest := []) (As := [.int a0]) C hW kv_X10_136 96 (by decide) (gL_10 rfl) rfl (m_isPerson l G σ τ a0) ⟨Nat.le_of_ble_eq_true rfl, Nat.le_of_ble_eq_true rfl⟩ ⟨Nat.le_refl _, Nat.le_refl _⟩ rfl hl.1 rfl (Nat.le_of_ble_eq_true rfl) dX10_person_7 (fun H locs hW => ?_)
  refine lv_if_eq (tgt := 22) hx hb dX10_person_10 (by decide) (fun c_1 => ?_) (fun c_1 => ?_)
  · skip
    replace c_1 : (mIn a0 0 (σ 98 1 - 1)) = false := bI_eq0.mp c_1
    refine lv_iconst (v := (-1)) hx hb dX10_person_22 (by decide) ?_
    exact g_iret C hr hlk hW dX10_person_23 (by simp [c_1]) (by simp [c_1]) (rfl)
  · skip
    replace c_1 : (mIn a0 0 (σ 98 1 - 1)) = true := bI_ne0.mp c_1
    refine lv_iload_n hx hb dX10_person_13 rfl (lv_at hl 2 rfl) ?_
    refine lv_iconst (v := 0) hx hb dX10_person_14 (by decide) ?_
    refine lv_iconst (v := 5) hx hb dX10_person_15 (by decide) ?_
    refine g_callsI (rest := []) (As := [.int a1, .int 0, .int 5]) C hW ks_X10_66 (m_in l G σ τ a1 0 5) ⟨Nat.le_of_ble_eq_true rfl, Nat.le_of_ble_eq_true rfl⟩ ⟨Nat.le_refl _, Nat.le_refl _⟩ rfl hl.1 rfl (Nat.le_of_ble_eq_true rfl) dX10_person_16 (fun H locs hW => ?_)
    refine lv_if_ne (tgt := 24) hx hb dX10_person_19 (by decide) (fun c_2 => ?_) (fun c_2 => ?_)
    · skip
      replace c_2 : (mIn a1 0 5) = true := bI_ne0.mp c_2
      have hp0 := c_1
      rw [hN] at hp0
      have hp := mIn_nat (N := N) hp0 (by omega)
      refine lv_aload_n hx hb dX10_person_24 rfl (lv_at hl 0 rfl) ?_
      refine g_callvV (rest := []) (As := []) C hW kv_X10_139 96 (by decide) (gL_10 rfl) rfl (m_asNow l G σ τ) ⟨Nat.le_of_ble_eq_true rfl, Nat.le_of_ble_eq_true rfl⟩ ⟨Nat.le_refl _, Nat.le_refl _⟩ rfl hl.1 rfl (Nat.le_of_ble_eq_true rfl) dX10_person_25 (fun H locs hW => ?_)
      refine lv_iload_n hx hb dX10_person_28 rfl (lv_at hl 2 rfl) ?_
      refine lv_iconst (v := 3) hx hb dX10_person_29 (by decide) ?_
      refine lv_icmp_ge (tgt := 71) hx hb dX10_person_30 (by decide) (fun c_3 => ?_) (fun c_3 => ?_)
      · skip
        refine lv_iload_n hx hb dX10_person_71 rfl (lv_at hl 2 rfl) ?_
        refine lv_iconst (v := 3) hx hb dX10_person_72 (by decide) ?_
        refine lv_icmp_ne (tgt := 88) hx hb dX10_person_73 (by decide) (fun c_4 => ?_) (fun c_4 => ?_)
        · skip
          refine lv_iload_n hx hb dX10_person_88 rfl (lv_at hl 2 rfl) ?_
          refine lv_iconst (v := 5) hx hb dX10_person_89 (by decide) ?_
          refine lv_icmp_ne (tgt := 102) hx hb dX10_person_90 (by decide) (fun c_5 => ?_) (fun c_5 => ?_)
          · skip
            refine lv_aload_n hx hb dX10_person_102 rfl (lv_at hl 0 rfl) ?_
            refine gf_X10_31 C hW (by decide) rfl dX10_person_103 ?_
            refine lv_bipush (v := 15) hx hb dX10_person_106 (by decide) ?_
            refine g_ald (v := σ 104 15) 15 C hW (by decide) rfl rfl (by decide) (by decide) rfl dX10_person_108 ?_
            refine lv_sipush (v := 240) hx hb dX10_person_109 (by decide) ?_
            refine lv_icmp_ge (tgt := 140) hx hb dX10_person_112 (by decide) (fun c_6 => ?_) (fun c_6 => ?_)
            · skip
              refine lv_iconst (v := 0) hx hb dX10_person_140 (by decide) ?_
              exact g_iret C hr hlk hW dX10_person_141 (by rw [if_pos ⟨c_1, c_2⟩]; simp [c_3, c_4, c_5, c_6]) (by rw [if_pos ⟨c_1, c_2⟩]) (rfl)
            · skip
              refine lv_aload_n hx hb dX10_person_115 rfl (lv_at hl 0 rfl) ?_
              refine lv_iload_n hx hb dX10_person_116 rfl (lv_at hl 1 rfl) ?_
              refine lv_aload_n hx hb dX10_person_117 rfl (lv_at hl 0 rfl) ?_
              refine gf_X10_31 C hW (by decide) rfl dX10_person_118 ?_
              refine lv_bipush (v := 15) hx hb dX10_person_121 (by decide) ?_
              refine g_ald (v := σ 104 15) 15 C hW (by decide) rfl rfl (by decide) (by decide) rfl dX10_person_123 ?_
              refine lv_aload_n hx hb dX10_person_124 rfl (lv_at hl 0 rfl) ?_
              refine lv_iload_n hx hb dX10_person_125 rfl (lv_at hl 1 rfl) ?_
              refine lv_iconst (v := 0) hx hb dX10_person_126 (by decide) ?_
              refine g_callvI (rest := [.int (σ 104 15), .int a0, .ref (gAd G 96)]) (As := [.int a0, .int 0]) C hW kv_X10_130 96 (by decide) (gL_10 rfl) rfl (hp.1 ▸ m_placeIn l G (gu σ 96 25 (σ 104 16)) τ 0 a0.toNatClampNeg (by omega)) ⟨Nat.le_of_ble_eq_true rfl, Nat.le_of_ble_eq_true rfl⟩ ⟨Nat.le_refl _, Nat.le_refl _⟩ rfl hl.1 rfl (Nat.le_of_ble_eq_true rfl) dX10_person_127 (fun H locs hW => ?_)
              refine g_callvI (rest := []) (As := [.int a0, .int (σ 104 15), .int (rPl ((gu σ 96 25 (σ 104 16)) 104) a0.toNatClampNeg 0)]) C hW kv_X10_133 96 (by decide) (gL_10 rfl) rfl (m_isRung l G (gu σ 96 25 (σ 104 16)) τ a0 (σ 104 15) (rPl ((gu σ 96 25 (σ 104 16)) 104) a0.toNatClampNeg 0) D (hD) hD8) ⟨Nat.le_of_ble_eq_true rfl, Nat.le_of_ble_eq_true rfl⟩ ⟨Nat.le_refl _, Nat.le_refl _⟩ rfl hl.1 rfl (Nat.le_of_ble_eq_true rfl) dX10_person_130 (fun H locs hW => ?_)
              refine lv_if_eq (tgt := 140) hx hb dX10_person_133 (by decide) (fun c_7 => ?_) (fun c_7 => ?_)
              · skip
                replace c_7 : (mRung (gu σ 96 25 (σ 104 16)) a0 (σ 104 15) (rPl ((gu σ 96 25 (σ 104 16)) 104) a0.toNatClampNeg 0) D) = false := bI_eq0.mp c_7
                refine lv_iconst (v := 0) hx hb dX10_person_140 (by decide) ?_
                exact g_iret C hr hlk hW dX10_person_141 (by rw [if_pos ⟨c_1, c_2⟩]; simp [c_3, c_4, c_5, c_6, c_7]) (by rw [if_pos ⟨c_1, c_2⟩]) (rfl)
              · skip
                replace c_7 : (mRung (gu σ 96 25 (σ 104 16)) a0 (σ 104 15) (rPl ((gu σ 96 25 (σ 104 16)) 104) a0.toNatClampNeg 0) D) = true := bI_ne0.mp c_7
                refine lv_iconst (v := 1) hx hb dX10_person_136 (by decide) ?_
                refine lv_goto (tgt := 141) hx hb dX10_person_137 (by decide) ?_
                exact g_iret C hr hlk hW dX10_person_141 (by rw [if_pos ⟨c_1, c_2⟩]; simp [c_3, c_4, c_5, c_6, c_7]) (by rw [if_pos ⟨c_1, c_2⟩]) (rfl)
          · skip
            refine lv_aload_n hx hb dX10_person_93 rfl (lv_at hl 0 rfl) ?_
            refine gf_X10_16 C hW (by decide) rfl dX10_person_94 ?_
            refine lv_iload_n hx hb dX10_person_97 rfl (lv_at hl 1 rfl) ?_
            refine g_ald (v := σ 99 a0.toNatClampNeg) a0.toNatClampNeg C hW (by decide) rfl hp.1 (show a0.toNatClampNeg < 10 by omega) (by decide) rfl dX10_person_98 ?_
            refine lv_goto (tgt := 141) hx hb dX10_person_99 (by decide) ?_
            exact g_iret C hr hlk hW dX10_person_141 (by rw [if_pos ⟨c_1, c_2⟩]; simp [c_3, c_4, c_5]) (by rw [if_pos ⟨c_1, c_2⟩]) (rfl)
        · skip
          refine lv_aload_n hx hb dX10_person_76 rfl (lv_at hl 0 rfl) ?_
          refine gf_X10_31 C hW (by decide) rfl dX10_person_77 ?_
          refine lv_bipush (v := 10) hx hb dX10_person_80 (by decide) ?_
          refine lv_iload_n hx hb dX10_person_82 rfl (lv_at hl 1 rfl) ?_
          refine lv_iadd hx hb dX10_person_83 ?_
          refine g_ald (v := σ 104 (10 + a0.toNatClampNeg)) (10 + a0.toNatClampNeg) C hW (by decide) rfl (gadd (rfl : 10 = nI 10) hp.1) (show (10 + a0.toNatClampNeg) < 25 by omega) (by decide) rfl dX10_person_84 ?_
          refine lv_goto (tgt := 141) hx hb dX10_person_85 (by decide) ?_
          exact g_iret C hr hlk hW dX10_person_141 (by rw [if_pos ⟨c_1, c_2⟩]; simp [c_3, c_4]) (by rw [if_pos ⟨c_1, c_2⟩]) (rfl)
      · skip
        refine lv_iload_n hx hb dX10_person_33 rfl (lv_at hl 2 rfl) ?_
        refine lv_if_ne (tgt := 46) hx hb dX10_person_34 (by decide) (fun c_8 => ?_) (fun c_8 => ?_)
        · skip
          refine lv_iload_n hx hb dX10_person_46 rfl (lv_at hl 2 rfl) ?_
          refine lv_iconst (v := 1) hx hb dX10_person_47 (by decide) ?_
          refine lv_icmp_ne (tgt := 62) hx hb dX10_person_48 (by decide) (fun c_9 => ?_) (fun c_9 => ?_)
          · skip
            refine lv_aload_n hx hb dX10_person_62 rfl (lv_at hl 0 rfl) ?_
            refine gf_X10_31 C hW (by decide) rfl dX10_person_63 ?_
            refine lv_iconst (v := 5) hx hb dX10_person_66 (by decide) ?_
            refine lv_iload_n hx hb dX10_person_67 rfl (lv_at hl 1 rfl) ?_
            refine lv_iadd hx hb dX10_person_68 ?_
            refine g_ald (v := σ 104 (5 + a0.toNatClampNeg)) (5 + a0.toNatClampNeg) C hW (by decide) rfl (gadd (rfl : 5 = nI 5) hp.1) (show (5 + a0.toNatClampNeg) < 25 by omega) (by decide) rfl dX10_person_69 ?_
            exact g_iret C hr hlk hW dX10_person_70 (by rw [if_pos ⟨c_1, c_2⟩]; simp [c_3, c_8, c_9]) (by rw [if_pos ⟨c_1, c_2⟩]) (rfl)
          · skip
            refine lv_aload_n hx hb dX10_person_51 rfl (lv_at hl 0 rfl) ?_
            refine gf_X10_31 C hW (by decide) rfl dX10_person_52 ?_
            refine lv_iconst (v := 0) hx hb dX10_person_55 (by decide) ?_
            refine lv_iload_n hx hb dX10_person_56 rfl (lv_at hl 1 rfl) ?_
            refine lv_iadd hx hb dX10_person_57 ?_
            refine g_ald (v := σ 104 (0 + a0.toNatClampNeg)) (0 + a0.toNatClampNeg) C hW (by decide) rfl (gadd (rfl : 0 = nI 0) hp.1) (show (0 + a0.toNatClampNeg) < 25 by omega) (by decide) rfl dX10_person_58 ?_
            refine lv_goto (tgt := 70) hx hb dX10_person_59 (by decide) ?_
            exact g_iret C hr hlk hW dX10_person_70 (by rw [if_pos ⟨c_1, c_2⟩]; simp [c_3, c_8, c_9]) (by rw [if_pos ⟨c_1, c_2⟩]) (rfl)
        · skip
          refine lv_aload_n hx hb dX10_person_37 rfl (lv_at hl 0 rfl) ?_
          refine lv_iload_n hx hb dX10_person_38 rfl (lv_at hl 1 rfl) ?_
          refine lv_iconst (v := 0) hx hb dX10_person_39 (by decide) ?_
          refine g_callvI (rest := []) (As := [.int a0, .int 0]) C hW kv_X10_130 96 (by decide) (gL_10 rfl) rfl (hp.1 ▸ m_placeIn l G (gu σ 96 25 (σ 104 16)) τ 0 a0.toNatClampNeg (by omega)) ⟨Nat.le_of_ble_eq_true rfl, Nat.le_of_ble_eq_true rfl⟩ ⟨Nat.le_refl _, Nat.le_refl _⟩ rfl hl.1 rfl (Nat.le_of_ble_eq_true rfl) dX10_person_40 (fun H locs hW => ?_)
          refine lv_goto (tgt := 70) hx hb dX10_person_43 (by decide) ?_
          exact g_iret C hr hlk hW dX10_person_70 (by rw [if_pos ⟨c_1, c_2⟩]; simp [c_3, c_8]) (by rw [if_pos ⟨c_1, c_2⟩]) (rfl)
    · skip
      replace c_2 : (mIn a1 0 5) = false := bI_eq0.mp c_2
      refine lv_iconst (v := (-1)) hx hb dX10_person_22 (by decide) ?_
      exact g_iret C hr hlk hW dX10_person_23 (by simp [c_1, c_2]) (by simp [c_1, c_2]) (rfl)
set_option maxHeartbeats 4000000 in
set_option maxRecDepth 100000 in
theorem m_duty (l : Launch) (G : gG) (σ : gSt) (τ : Nat → Int64) (a0 a1 : Int32) (D : Nat) (hD : σ 98 2 = nI D) (hD8 : D ≤ 8) : gI l yX10_duty cX10_duty 3 (some .int) 2 43 G [.ref (gAd G 96), .int a0, .int a1] σ τ (if mIn a0 0 (σ 98 2 - 1) = true ∧ mIn a1 0 4 = true then (if a1 = 0 then σ 104 (17 + a0.toNatClampNeg) else if a1 = 1 then σ 101 a0.toNatClampNeg else if a1 = 2 then σ 102 a0.toNatClampNeg else if a1 = 3 then σ 103 a0.toNatClampNeg else (σ 104 16 >>> (a0 &&& 31)) &&& 1) else -1) σ τ := by
  refine gMet_of (by decide) (Nat.le_of_ble_eq_true rfl) ?_
  intro p e s m args below meth c C hr hlk ls hl hW
  have hx := C.1
  have hb := C.2.1
  have hl : lv_has ls 3 [(0, .ref (gAd G 96)), (1, .int a0), (2, .int a1)] := hl
  refine lv_aload_n hx hb dX10_duty_0 rfl (lv_at hl 0 rfl) ?_
  refine lv_iconst (v := 0) hx hb dX10_duty_1 (by decide) ?_
  refine gp_X10_62 C hW (by decide) rfl dX10_duty_2 (fun H locs hW => ?_)
  refine lv_aload_n hx hb dX10_duty_5 rfl (lv_at hl 0 rfl) ?_
  refine lv_iload_n hx hb dX10_duty_6 rfl (lv_at hl 1 rfl) ?_
  refine g_callvI (rest := []) (As := [.int a0]) C hW kv_X10_142 96 (by decide) (gL_10 rfl) rfl (m_isDuty l G σ τ a0) ⟨Nat.le_of_ble_eq_true rfl, Nat.le_of_ble_eq_true rfl⟩ ⟨Nat.le_refl _, Nat.le_refl _⟩ rfl hl.1 rfl (Nat.le_of_ble_eq_true rfl) dX10_duty_7 (fun H locs hW => ?_)
  refine lv_if_eq (tgt := 22) hx hb dX10_duty_10 (by decide) (fun c_1 => ?_) (fun c_1 => ?_)
  · skip
    replace c_1 : (mIn a0 0 (σ 98 2 - 1)) = false := bI_eq0.mp c_1
    refine lv_iconst (v := (-1)) hx hb dX10_duty_22 (by decide) ?_
    exact g_iret C hr hlk hW dX10_duty_23 (by simp [c_1]) (rfl) (rfl)
  · skip
    replace c_1 : (mIn a0 0 (σ 98 2 - 1)) = true := bI_ne0.mp c_1
    refine lv_iload_n hx hb dX10_duty_13 rfl (lv_at hl 2 rfl) ?_
    refine lv_iconst (v := 0) hx hb dX10_duty_14 (by decide) ?_
    refine lv_iconst (v := 4) hx hb dX10_duty_15 (by decide) ?_
    refine g_callsI (rest := []) (As := [.int a1, .int 0, .int 4]) C hW ks_X10_66 (m_in l G σ τ a1 0 4) ⟨Nat.le_of_ble_eq_true rfl, Nat.le_of_ble_eq_true rfl⟩ ⟨Nat.le_refl _, Nat.le_refl _⟩ rfl hl.1 rfl (Nat.le_of_ble_eq_true rfl) dX10_duty_16 (fun H locs hW => ?_)
    refine lv_if_ne (tgt := 24) hx hb dX10_duty_19 (by decide) (fun c_2 => ?_) (fun c_2 => ?_)
    · skip
      replace c_2 : (mIn a1 0 4) = true := bI_ne0.mp c_2
      have hp0 := c_1
      rw [hD] at hp0
      have hp := mIn_nat (N := D) hp0 (by omega)
      refine lv_iload_n hx hb dX10_duty_24 rfl (lv_at hl 2 rfl) ?_
      refine lv_if_ne (tgt := 40) hx hb dX10_duty_25 (by decide) (fun c_3 => ?_) (fun c_3 => ?_)
      · skip
        refine lv_iload_n hx hb dX10_duty_40 rfl (lv_at hl 2 rfl) ?_
        refine lv_iconst (v := 1) hx hb dX10_duty_41 (by decide) ?_
        refine lv_icmp_ne (tgt := 54) hx hb dX10_duty_42 (by decide) (fun c_4 => ?_) (fun c_4 => ?_)
        · skip
          refine lv_iload_n hx hb dX10_duty_54 rfl (lv_at hl 2 rfl) ?_
          refine lv_iconst (v := 2) hx hb dX10_duty_55 (by decide) ?_
          refine lv_icmp_ne (tgt := 68) hx hb dX10_duty_56 (by decide) (fun c_5 => ?_) (fun c_5 => ?_)
          · skip
            refine lv_iload_n hx hb dX10_duty_68 rfl (lv_at hl 2 rfl) ?_
            refine lv_iconst (v := 3) hx hb dX10_duty_69 (by decide) ?_
            refine lv_icmp_ne (tgt := 82) hx hb dX10_duty_70 (by decide) (fun c_6 => ?_) (fun c_6 => ?_)
            · skip
              refine lv_aload_n hx hb dX10_duty_82 rfl (lv_at hl 0 rfl) ?_
              refine gf_X10_31 C hW (by decide) rfl dX10_duty_83 ?_
              refine lv_bipush (v := 16) hx hb dX10_duty_86 (by decide) ?_
              refine g_ald (v := σ 104 16) 16 C hW (by decide) rfl rfl (by decide) (by decide) rfl dX10_duty_88 ?_
              refine lv_iload_n hx hb dX10_duty_89 rfl (lv_at hl 1 rfl) ?_
              refine lv_ishr hx hb dX10_duty_90 ?_
              refine lv_iconst (v := 1) hx hb dX10_duty_91 (by decide) ?_
              refine lv_iand hx hb dX10_duty_92 ?_
              exact g_iret C hr hlk hW dX10_duty_93 (by rw [if_pos ⟨c_1, c_2⟩]; simp [c_3, c_4, c_5, c_6]) (rfl) (rfl)
            · skip
              refine lv_aload_n hx hb dX10_duty_73 rfl (lv_at hl 0 rfl) ?_
              refine gf_X10_28 C hW (by decide) rfl dX10_duty_74 ?_
              refine lv_iload_n hx hb dX10_duty_77 rfl (lv_at hl 1 rfl) ?_
              refine g_ald (v := σ 103 a0.toNatClampNeg) a0.toNatClampNeg C hW (by decide) rfl hp.1 (show a0.toNatClampNeg < 16 by omega) (by decide) rfl dX10_duty_78 ?_
              refine lv_goto (tgt := 93) hx hb dX10_duty_79 (by decide) ?_
              exact g_iret C hr hlk hW dX10_duty_93 (by rw [if_pos ⟨c_1, c_2⟩]; simp [c_3, c_4, c_5, c_6]) (rfl) (rfl)
          · skip
            refine lv_aload_n hx hb dX10_duty_59 rfl (lv_at hl 0 rfl) ?_
            refine gf_X10_25 C hW (by decide) rfl dX10_duty_60 ?_
            refine lv_iload_n hx hb dX10_duty_63 rfl (lv_at hl 1 rfl) ?_
            refine g_ald (v := σ 102 a0.toNatClampNeg) a0.toNatClampNeg C hW (by decide) rfl hp.1 (show a0.toNatClampNeg < 16 by omega) (by decide) rfl dX10_duty_64 ?_
            refine lv_goto (tgt := 93) hx hb dX10_duty_65 (by decide) ?_
            exact g_iret C hr hlk hW dX10_duty_93 (by rw [if_pos ⟨c_1, c_2⟩]; simp [c_3, c_4, c_5]) (rfl) (rfl)
        · skip
          refine lv_aload_n hx hb dX10_duty_45 rfl (lv_at hl 0 rfl) ?_
          refine gf_X10_22 C hW (by decide) rfl dX10_duty_46 ?_
          refine lv_iload_n hx hb dX10_duty_49 rfl (lv_at hl 1 rfl) ?_
          refine g_ald (v := σ 101 a0.toNatClampNeg) a0.toNatClampNeg C hW (by decide) rfl hp.1 (show a0.toNatClampNeg < 16 by omega) (by decide) rfl dX10_duty_50 ?_
          refine lv_goto (tgt := 93) hx hb dX10_duty_51 (by decide) ?_
          exact g_iret C hr hlk hW dX10_duty_93 (by rw [if_pos ⟨c_1, c_2⟩]; simp [c_3, c_4]) (rfl) (rfl)
      · skip
        refine lv_aload_n hx hb dX10_duty_28 rfl (lv_at hl 0 rfl) ?_
        refine gf_X10_31 C hW (by decide) rfl dX10_duty_29 ?_
        refine lv_bipush (v := 17) hx hb dX10_duty_32 (by decide) ?_
        refine lv_iload_n hx hb dX10_duty_34 rfl (lv_at hl 1 rfl) ?_
        refine lv_iadd hx hb dX10_duty_35 ?_
        refine g_ald (v := σ 104 (17 + a0.toNatClampNeg)) (17 + a0.toNatClampNeg) C hW (by decide) rfl (gadd (rfl : 17 = nI 17) hp.1) (show (17 + a0.toNatClampNeg) < 25 by omega) (by decide) rfl dX10_duty_36 ?_
        refine lv_goto (tgt := 93) hx hb dX10_duty_37 (by decide) ?_
        exact g_iret C hr hlk hW dX10_duty_93 (by rw [if_pos ⟨c_1, c_2⟩]; simp [c_3]) (rfl) (rfl)
    · skip
      replace c_2 : (mIn a1 0 4) = false := bI_eq0.mp c_2
      refine lv_iconst (v := (-1)) hx hb dX10_duty_22 (by decide) ?_
      exact g_iret C hr hlk hW dX10_duty_23 (by simp [c_1, c_2]) (rfl) (rfl)
