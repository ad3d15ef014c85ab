/-! ===== the reference: loops over rows ===== -/
/-- n places of cell c2 from o2 on are put into cell c1 from o1 on, one after the other -/
def gcp (c1 c2 o1 o2 : Nat) (σ : gSt) : Nat → gSt
  | 0 => σ
  | k + 1 => gu (gcp c1 c2 o1 o2 σ k) c1 (o1 + k) (gcp c1 c2 o1 o2 σ k c2 (o2 + k))
theorem gu_ne {σ : gSt} {i k c : Nat} {x : Int32} (h : c ≠ i) : gu σ i k x c = σ c := by simp [gu, va_up, h]
theorem gu_at (σ : gSt) (i k c j : Nat) (x : Int32) : gu σ i k x c j = if c = i ∧ j = k then x else σ c j := by
  by_cases h : c = i
  · subst h; by_cases h2 : j = k <;> simp [gu, va_up, upd, h2]
  · simp [gu, va_up, h]
theorem gu_self (σ : gSt) (i k : Nat) : gu σ i k (σ i k) = σ := by
  funext c j
  rw [gu_at]
  split
  · next h => rw [h.1, h.2]
  · rfl
theorem gu_gu (σ : gSt) (i k : Nat) (x y : Int32) : gu (gu σ i k x) i k y = gu σ i k y := by
  funext c j
  simp only [gu_at]
  split <;> rfl
theorem gcp_ne {c1 c2 o1 o2 : Nat} {σ : gSt} {c : Nat} (h : c ≠ c1) : ∀ n, gcp c1 c2 o1 o2 σ n c = σ c
  | 0 => rfl
  | n + 1 => by rw [gcp, gu_ne h, gcp_ne h n]
theorem gcp_at {c1 c2 o1 o2 : Nat} {σ : gSt} (hc : c1 ≠ c2 ∨ o1 ≤ o2) : ∀ (n j : Nat), gcp c1 c2 o1 o2 σ n c1 j = if o1 ≤ j ∧ j < o1 + n then σ c2 (o2 + (j - o1)) else σ c1 j
  | 0, j => by simp [gcp]; intro a b; omega
  | n + 1, j => by
    rw [gcp, gu_at]
    by_cases hj : j = o1 + n
    · subst hj
      rw [if_pos ⟨rfl, rfl⟩, if_pos ⟨by omega, by omega⟩, show o1 + n - o1 = n by omega]
      by_cases e : c1 = c2
      · subst e
        rw [gcp_at hc n, if_neg (by rintro ⟨a, b⟩; rcases hc with q | q <;> omega)]
      · rw [gcp_ne (Ne.symm e)]
    · rw [if_neg (fun q => hj q.2), gcp_at hc n]
      by_cases hq : o1 ≤ j ∧ j < o1 + n
      · rw [if_pos hq, if_pos ⟨hq.1, by omega⟩]
      · rw [if_neg hq, if_neg (fun q => hq ⟨q.1, by omega⟩)]
/-- the first of the next n minutes with P -/
def rFirst (P : Nat → Bool) : Nat → Nat → Int32
  | 0, _ => -9
  | n + 1, m => if P m = true then nI m else rFirst P n (m + 1)
/-- whether none of the next n minutes has P -/
def rNone (P : Nat → Bool) : Nat → Nat → Bool
  | 0, _ => true
  | n + 1, m => if P m = true then false else rNone P n (m + 1)
def rCount (P : Nat → Bool) (m : Nat) : Nat → Int32
  | 0 => 0
  | i + 1 => if P (m + i) = true then rCount P m i + 1 else rCount P m i
def rFst (P : Nat → Bool) (m : Nat) : Nat → Int32
  | 0 => -9
  | i + 1 => if P (m + i) = true then (if rCount P m i = 0 then nI (m + i) else rFst P m i) else rFst P m i
def rSum (sr : Nat → Int32) : Nat → Int32
  | 0 => 0
  | p + 1 => rSum sr p + sr (10 + p)
/-- who was tolled for most, looked at from above: i of N seen -/
def rWorst (sr : Nat → Int32) (N : Nat) : Nat → Int32
  | 0 => -9
  | i + 1 => if sr (10 + (N - 1 - i)) ≤ 0 then rWorst sr N i else if rWorst sr N i = -9 then nI (N - 1 - i) else if sr (10 + (N - 1 - i)) < sr (10 + (rWorst sr N i).toNatClampNeg) then rWorst sr N i else nI (N - 1 - i)
theorem rWorst_nat {sr : Nat → Int32} {N : Nat} (hN : N ≤ 5) : ∀ i, i ≤ N → rWorst sr N i = -9 ∨ ∃ j, j < N ∧ rWorst sr N i = nI j
  | 0, _ => Or.inl rfl
  | i + 1, h => by
    rw [rWorst]
    have ih := rWorst_nat (sr := sr) hN i (by omega)
    split
    · exact ih
    · split
      · exact Or.inr ⟨N - 1 - i, by omega, rfl⟩
      · split
        · exact ih
        · exact Or.inr ⟨N - 1 - i, by omega, rfl⟩
def mNotes1 (σ : gSt) (u : Nat) : gSt := if u = 10 then gu (gcp 107 107 0 25 σ 225) 96 20 9 else σ
def mNotes (σ : gSt) (u : Nat) : gSt := gu (gcp 107 104 (25 * (if u = 10 then 9 else u)) 0 (mNotes1 σ u) 25) 96 20 (nI ((if u = 10 then 9 else u) + 1))
theorem mNotes_ne {σ : gSt} {u c : Nat} (h1 : c ≠ 107) (h2 : c ≠ 96) : mNotes σ u c = σ c := by
  rw [mNotes, gu_ne h2, gcp_ne h1, mNotes1]
  split
  · rw [gu_ne h2, gcp_ne h1]
  · rfl
def mWalk (mn : Nat → Int32) (a b : Int32) : Int32 := mn 3 * (if b ≤ a then a - b else b - a)
theorem dpos {q : Prop} [Decidable q] (h : q) : decide q = true := decide_eq_true h
theorem dneg {q : Prop} [Decidable q] (h : ¬ q) : ¬ decide q = true := fun z => h (of_decide_eq_true z)
theorem bneg {b : Bool} (h : b = false) : ¬ b = true := by rw [h]; decide
abbrev mNowS (σ : gSt) : gSt := gu σ 96 25 (σ 104 16)
theorem sh1 : ∀ D, D ≤ 8 → (1 : Int32) <<< (nI D &&& 31) = nI (2 ^ D) := by decide
/-- the reference's search for the fewest: (the best yet, what 'without' is) behind k sets -/
def rSil (fm lt wh sr : Nat → Int32) (fr set wo0 : Int32) (D N mi : Nat) : Nat → Int32 × Int32
  | 0 => (-9, wo0)
  | k + 1 =>
    if nI k &&& sr 16 = 0 then
      (if (rSil fm lt wh sr fr set wo0 D N mi k).1 = -9 ∨ ¬ mOnes (rSil fm lt wh sr fr set wo0 D N mi k).1 8 ≤ mOnes (nI k) 8 then
        ((if rNone (fun m => decide (set &&& (rRings fm lt wh sr fr (sr 16 ||| nI k) (nI m) D N ^^^ -1) = 0)) (240 - mi) mi = true then nI k else (rSil fm lt wh sr fr set wo0 D N mi k).1), sr 16 ||| nI k)
      else rSil fm lt wh sr fr set wo0 D N mi k)
    else rSil fm lt wh sr fr set wo0 D N mi k
abbrev mSil (σ : gSt) (set : Int32) (D N mi : Nat) (k : Nat) : Int32 × Int32 := rSil (σ 102) (σ 103) (σ 101) (σ 104) (σ 98 4) set (σ 96 25) D N mi k
def rFits (fm lt wh sr ho ha hs : Nat → Int32) (fr wo p at_ : Int32) (D : Nat) : Nat → Bool
  | 0 => true
  | e + 1 => rFits fm lt wh sr ho ha hs fr wo p at_ D e && (!decide (ho e = p) || (rRung fm lt wh sr fr wo p (ha e) at_ D == decide (hs e = 1)))
def rCan (fm lt wh sr ho ha hs : Nat → Int32) (fr wo p : Int32) (D E : Nat) : Nat → Int32
  | 0 => 0
  | k + 1 => rCan fm lt wh sr ho ha hs fr wo p D E k ||| (if rFits fm lt wh sr ho ha hs fr wo p (nI k) D E = true then 1 <<< (nI k &&& 31) else 0)
def rTraceAdd (a : Int32) : Int64 := if a = 0 then 1 else if a = 1 then 11 else if a = 2 then 101 else if a = 3 then 1011 else if a = 4 then 10101 else 100001
/-- how many duties alone ring for p, who is at 'at': d duties seen -/
def rMiss (fm lt wh sr : Nat → Int32) (fr p mi at_ : Int32) (D : Nat) : Nat → Nat
  | 0 => 0
  | d + 1 => if rRung fm lt wh sr fr ((255 : Int32) &&& (((1 : Int32) <<< (nI d &&& 31)) ^^^ -1) ||| sr 16) p mi at_ D = true then rMiss fm lt wh sr fr p mi at_ D d + 1 else rMiss fm lt wh sr fr p mi at_ D d
abbrev mMiss (σ : gSt) (p mi at_ : Int32) (D d : Nat) : Nat := rMiss (σ 102) (σ 103) (σ 101) (σ 104) (σ 98 4) p mi at_ D d
theorem rMiss_le {fm lt wh sr : Nat → Int32} {fr p mi at_ : Int32} {D : Nat} : ∀ d, rMiss fm lt wh sr fr p mi at_ D d ≤ d
  | 0 => Nat.le_refl 0
  | d + 1 => by
    rw [rMiss]
    have := rMiss_le (fm := fm) (lt := lt) (wh := wh) (sr := sr) (fr := fr) (p := p) (mi := mi) (at_ := at_) (D := D) d
    split <;> omega
def rOddW (ex wo0 : Int32) : Nat → Int32
  | 0 => wo0
  | d + 1 => (255 : Int32) &&& (((1 : Int32) <<< (nI d &&& 31)) ^^^ -1) ||| ex
theorem gdec (x : Int32) : x + (-1) = x - 1 := by rw [Int32.sub_eq_add_neg]
theorem in5_nat {x : Int32} (h : mIn x 0 5 = true) (h2 : ¬ 2 ≤ x) : x = nI x.toNatClampNeg ∧ x.toNatClampNeg < 2 := by
  simp only [mIn, Bool.and_eq_true, Bool.not_eq_true', decide_eq_false_iff_not] at h
  obtain ⟨j, hj, rfl⟩ := nI_of h.1
  rw [nI_clamp hj]
  refine ⟨rfl, ?_⟩
  rcases Nat.lt_or_ge j 2 with q | q
  · exact q
  · exact absurd (nI_le q hj) h2
set_option maxHeartbeats 4000000 in
set_option maxRecDepth 100000 in
theorem m_isPerson (l : Launch) (G : gG) (σ : gSt) (τ : Nat → Int64) (a0 : Int32) : gI l yX10_isPerson cX10_isPerson 2 (some .boolean) 1 22 G [.ref (gAd G 96), .int a0] σ τ (bI (mIn a0 0 (σ 98 1 - 1))) σ τ := by
  refine gMet_of (by decide) (Nat.le_of_ble_eq_true rfl) ?_
  intro p e s m args below meth c C hr hlk ls hl hW
  have hx := C.1
  have hb := C.2.1
  have hl : lv_has ls 2 [(0, .ref (gAd G 96)), (1, .int a0)] := hl
  refine lv_iload_n hx hb dX10_isPerson_0 rfl (lv_at hl 1 rfl) ?_
  refine lv_iconst (v := 0) hx hb dX10_isPerson_1 (by decide) ?_
  refine lv_aload_n hx hb dX10_isPerson_2 rfl (lv_at hl 0 rfl) ?_
  refine gf_X10_13 C hW (by decide) rfl dX10_isPerson_3 ?_
  refine lv_iconst (v := 1) hx hb dX10_isPerson_6 (by decide) ?_
  refine g_ald (v := σ 98 1) 1 C hW (by decide) rfl rfl (by decide) (by decide) rfl dX10_isPerson_7 ?_
  refine lv_iconst (v := 1) hx hb dX10_isPerson_8 (by decide) ?_
  refine lv_isub hx hb dX10_isPerson_9 ?_
  refine g_callsI (r := bI (mIn a0 0 ((σ 98 1) - 1))) (σ' := σ) (rest := []) (As := [.int a0, .int 0, .int ((σ 98 1) - 1)]) C hW ks_X10_66 (m_in l G σ τ a0 0 ((σ 98 1) - 1)) ⟨Nat.le_of_ble_eq_true rfl, Nat.le_of_ble_eq_true rfl⟩ ⟨Nat.le_refl _, Nat.le_refl _⟩ rfl hl.1 rfl (Nat.le_of_ble_eq_true rfl) dX10_isPerson_10 (fun H locs hW => ?_)
  exact g_zret C hr hlk hW dX10_isPerson_13 (bI_nar _) (rfl) (rfl) (rfl)
set_option maxHeartbeats 4000000 in
set_option maxRecDepth 100000 in
theorem m_isDuty (l : Launch) (G : gG) (σ : gSt) (τ : Nat → Int64) (a0 : Int32) : gI l yX10_isDuty cX10_isDuty 2 (some .boolean) 1 22 G [.ref (gAd G 96), .int a0] σ τ (bI (mIn a0 0 (σ 98 2 - 1))) σ τ := by
  refine gMet_of (by decide) (Nat.le_of_ble_eq_true rfl) ?_
  intro p e s m args below meth c C hr hlk ls hl hW
  have hx := C.1
  have hb := C.2.1
  have hl : lv_has ls 2 [(0, .ref (gAd G 96)), (1, .int a0)] := hl
  refine lv_iload_n hx hb dX10_isDuty_0 rfl (lv_at hl 1 rfl) ?_
  refine lv_iconst (v := 0) hx hb dX10_isDuty_1 (by decide) ?_
  refine lv_aload_n hx hb dX10_isDuty_2 rfl (lv_at hl 0 rfl) ?_
  refine gf_X10_13 C hW (by decide) rfl dX10_isDuty_3 ?_
  refine lv_iconst (v := 2) hx hb dX10_isDuty_6 (by decide) ?_
  refine g_ald (v := σ 98 2) 2 C hW (by decide) rfl rfl (by decide) (by decide) rfl dX10_isDuty_7 ?_
  refine lv_iconst (v := 1) hx hb dX10_isDuty_8 (by decide) ?_
  refine lv_isub hx hb dX10_isDuty_9 ?_
  refine g_callsI (r := bI (mIn a0 0 ((σ 98 2) - 1))) (σ' := σ) (rest := []) (As := [.int a0, .int 0, .int ((σ 98 2) - 1)]) C hW ks_X10_66 (m_in l G σ τ a0 0 ((σ 98 2) - 1)) ⟨Nat.le_of_ble_eq_true rfl, Nat.le_of_ble_eq_true rfl⟩ ⟨Nat.le_refl _, Nat.le_refl _⟩ rfl hl.1 rfl (Nat.le_of_ble_eq_true rfl) dX10_isDuty_10 (fun H locs hW => ?_)
  exact g_zret C hr hlk hW dX10_isDuty_13 (bI_nar _) (rfl) (rfl) (rfl)
set_option maxHeartbeats 4000000 in
set_option maxRecDepth 100000 in
theorem m_isPlace (l : Launch) (G : gG) (σ : gSt) (τ : Nat → Int64) (a0 : Int32) : gI l yX10_isPlace cX10_isPlace 2 (some .boolean) 1 22 G [.ref (gAd G 96), .int a0] σ τ (bI (mIn a0 0 (σ 98 0 - 1))) σ τ := by
  refine gMet_of (by decide) (Nat.le_of_ble_eq_true rfl) ?_
  intro p e s m args below meth c C hr hlk ls hl hW
  have hx := C.1
  have hb := C.2.1
  have hl : lv_has ls 2 [(0, .ref (gAd G 96)), (1, .int a0)] := hl
  refine lv_iload_n hx hb dX10_isPlace_0 rfl (lv_at hl 1 rfl) ?_
  refine lv_iconst (v := 0) hx hb dX10_isPlace_1 (by decide) ?_
  refine lv_aload_n hx hb dX10_isPlace_2 rfl (lv_at hl 0 rfl) ?_
  refine gf_X10_13 C hW (by decide) rfl dX10_isPlace_3 ?_
  refine lv_iconst (v := 0) hx hb dX10_isPlace_6 (by decide) ?_
  refine g_ald (v := σ 98 0) 0 C hW (by decide) rfl rfl (by decide) (by decide) rfl dX10_isPlace_7 ?_
  refine lv_iconst (v := 1) hx hb dX10_isPlace_8 (by decide) ?_
  refine lv_isub hx hb dX10_isPlace_9 ?_
  refine g_callsI (r := bI (mIn a0 0 ((σ 98 0) - 1))) (σ' := σ) (rest := []) (As := [.int a0, .int 0, .int ((σ 98 0) - 1)]) C hW ks_X10_66 (m_in l G σ τ a0 0 ((σ 98 0) - 1)) ⟨Nat.le_of_ble_eq_true rfl, Nat.le_of_ble_eq_true rfl⟩ ⟨Nat.le_refl _, Nat.le_refl _⟩ rfl hl.1 rfl (Nat.le_of_ble_eq_true rfl) dX10_isPlace_10 (fun H locs hW => ?_)
  exact g_zret C hr hlk hW dX10_isPlace_13 (bI_nar _) (rfl) (rfl) (rfl)
set_option maxHeartbeats 4000000 in
set_option maxRecDepth 100000 in
theorem m_isSet (l : Launch) (G : gG) (σ : gSt) (τ : Nat → Int64) (a0 : Int32) : gI l yX10_isSet cX10_isSet 2 (some .boolean) 1 22 G [.ref (gAd G 96), .int a0] σ τ (bI (mIn a0 0 ((1 <<< (σ 98 1 &&& 31)) - 1))) σ τ := by
  refine gMet_of (by decide) (Nat.le_of_ble_eq_true rfl) ?_
  intro p e s m args below meth c C hr hlk ls hl hW
  have hx := C.1
  have hb := C.2.1
  have hl : lv_has ls 2 [(0, .ref (gAd G 96)), (1, .int a0)] := hl
  refine lv_iload_n hx hb dX10_isSet_0 rfl (lv_at hl 1 rfl) ?_
  refine lv_iconst (v := 0) hx hb dX10_isSet_1 (by decide) ?_
  refine lv_iconst (v := 1) hx hb dX10_isSet_2 (by decide) ?_
  refine lv_aload_n hx hb dX10_isSet_3 rfl (lv_at hl 0 rfl) ?_
  refine gf_X10_13 C hW (by decide) rfl dX10_isSet_4 ?_
  refine lv_iconst (v := 1) hx hb dX10_isSet_7 (by decide) ?_
  refine g_ald (v := σ 98 1) 1 C hW (by decide) rfl rfl (by decide) (by decide) rfl dX10_isSet_8 ?_
  refine lv_ishl hx hb dX10_isSet_9 ?_
  refine lv_iconst (v := 1) hx hb dX10_isSet_10 (by decide) ?_
  refine lv_isub hx hb dX10_isSet_11 ?_
  refine g_callsI (r := bI (mIn a0 0 ((1 <<< ((σ 98 1) &&& 31)) - 1))) (σ' := σ) (rest := []) (As := [.int a0, .int 0, .int ((1 <<< ((σ 98 1) &&& 31)) - 1)]) C hW ks_X10_66 (m_in l G σ τ a0 0 ((1 <<< ((σ 98 1) &&& 31)) - 1)) ⟨Nat.le_of_ble_eq_true rfl, Nat.le_of_ble_eq_true rfl⟩ ⟨Nat.le_refl _, Nat.le_refl _⟩ rfl hl.1 rfl (Nat.le_of_ble_eq_true rfl) dX10_isSet_12 (fun H locs hW => ?_)
  exact g_zret C hr hlk hW dX10_isSet_15 (bI_nar _) (rfl) (rfl) (rfl)
set_option maxHeartbeats 4000000 in
set_option maxRecDepth 100000 in
theorem m_asNow (l : Launch) (G : gG) (σ : gSt) (τ : Nat → Int64) : gV l yX10_asNow cX10_asNow 1 (none : Option Jvm.ClassFile.FieldType) 0 0 G [.ref (gAd G 96)] σ τ (mNowS σ) τ := by
  refine gMet_of (by decide) (Nat.le_of_ble_eq_true rfl) ?_
  intro p e s m args below meth c C hr hlk ls hl hW
  have hx := C.1
  have hb := C.2.1
  have hl : lv_has ls 1 [(0, .ref (gAd G 96))] := hl
  refine lv_aload_n hx hb dX10_asNow_0 rfl (lv_at hl 0 rfl) ?_
  refine lv_aload_n hx hb dX10_asNow_1 rfl (lv_at hl 0 rfl) ?_
  refine gf_X10_31 C hW (by decide) rfl dX10_asNow_2 ?_
  refine lv_bipush (v := 16) hx hb dX10_asNow_5 (by decide) ?_
  refine g_ald (v := σ 104 16) 16 C hW (by decide) rfl rfl (by decide) (by decide) rfl dX10_asNow_7 ?_
  refine gp_X10_127 C hW (by decide) rfl dX10_asNow_8 (fun H locs hW => ?_)
  exact g_vret C hr hlk hW dX10_asNow_11 (rfl) (rfl)
set_option maxHeartbeats 4000000 in
set_option maxRecDepth 100000 in
theorem m_placeIn (l : Launch) (G : gG) (σ : gSt) (τ : Nat → Int64) (a0 a1 : Int32) (k : Nat) (hk : k < 5) (ha : a0 = nI k) : gI l yX10_placeIn cX10_placeIn 3 (some .int) 0 0 G [.ref (gAd G 96), .int a0, .int a1] σ τ (rPl (σ 104) k a1) σ τ := by
  refine gMet_of (by decide) (Nat.le_of_ble_eq_true rfl) ?_
  intro p e s m args below meth c C hr hlk ls hl hW
  have hx := C.1
  have hb := C.2.1
  have hl : lv_has ls 3 [(0, .ref (gAd G 96)), (1, .int a0), (2, .int a1)] := hl
  refine lv_aload_n hx hb dX10_placeIn_0 rfl (lv_at hl 0 rfl) ?_
  refine gf_X10_31 C hW (by decide) rfl dX10_placeIn_1 ?_
  refine lv_iconst (v := 5) hx hb dX10_placeIn_4 (by decide) ?_
  refine lv_iload_n hx hb dX10_placeIn_5 rfl (lv_at hl 1 rfl) ?_
  refine lv_iadd hx hb dX10_placeIn_6 ?_
  refine g_ald (v := σ 104 (5 + k)) (5 + k) C hW (by decide) rfl (gadd (rfl : 5 = nI 5) ha) (show (5 + k) < 25 by omega) (by decide) rfl dX10_placeIn_7 ?_
  refine lv_iload_n hx hb dX10_placeIn_8 rfl (lv_at hl 2 rfl) ?_
  refine lv_icmp_le (tgt := 17) hx hb dX10_placeIn_9 (by decide) (fun c_1 => ?_) (fun c_1 => ?_)
  · skip
    refine lv_aload_n hx hb dX10_placeIn_17 rfl (lv_at hl 0 rfl) ?_
    refine gf_X10_31 C hW (by decide) rfl dX10_placeIn_18 ?_
    refine lv_iconst (v := 0) hx hb dX10_placeIn_21 (by decide) ?_
    refine lv_iload_n hx hb dX10_placeIn_22 rfl (lv_at hl 1 rfl) ?_
    refine lv_iadd hx hb dX10_placeIn_23 ?_
    refine g_ald (v := σ 104 k) k C hW (by decide) rfl (gz ha) (show k < 25 by omega) (by decide) rfl dX10_placeIn_24 ?_
    exact g_iret C hr hlk hW dX10_placeIn_25 (by simp [bI, rPl, c_1]) (rfl) (rfl)
  · skip
    refine lv_bipush (v := (-9)) hx hb dX10_placeIn_12 (by decide) ?_
    refine lv_goto (tgt := 25) hx hb dX10_placeIn_14 (by decide) ?_
    exact g_iret C hr hlk hW dX10_placeIn_25 (by simp [bI, rPl, c_1]) (rfl) (rfl)
set_option maxHeartbeats 4000000 in
set_option maxRecDepth 100000 in
theorem m_ringsIn (l : Launch) (G : gG) (σ : gSt) (τ : Nat → Int64) (a0 : Int32) (D : Nat) (hD : σ 98 2 = nI D) (hD8 : D ≤ 8) (N : Nat) (hN : σ 98 1 = nI N) (hN5 : N ≤ 5) : gI l yX10_ringsIn cX10_ringsIn 4 (some .int) 1 26 G [.ref (gAd G 96), .int a0] σ τ (mRings σ (σ 96 25) a0 D N) σ τ := by
  refine gMet_of (by decide) (Nat.le_of_ble_eq_true rfl) ?_
  intro p e s m args below meth c C hr hlk ls hl hW
  have hx := C.1
  have hb := C.2.1
  have hl : lv_has ls 4 [(0, .ref (gAd G 96)), (1, .int a0)] := hl
  refine lv_iconst (v := 0) hx hb dX10_ringsIn_0 (by decide) ?_
  refine lv_istore_n (lv' := [(2, .int 0), (0, .ref (gAd G 96)), (1, .int a0)]) hx hb dX10_ringsIn_1 rfl hl (by decide) rfl (fun ls hl => ?_)
  refine lv_iconst (v := 0) hx hb dX10_ringsIn_2 (by decide) ?_
  refine lv_istore_n (lv' := [(3, .int 0), (2, .int 0), (0, .ref (gAd G 96)), (1, .int a0)]) hx hb dX10_ringsIn_3 rfl hl (by decide) rfl (fun ls hl => ?_)
  have L4 : ∀ (n : Nat) (k : Nat) (v : Int32) (H : Heap) (locs : List Loc) (ls : Array Slot), n + k = N → v = mRings σ (σ 96 25) a0 D k → gW G s σ τ H locs → lv_has ls 4 [(3, .int (nI k)), (2, .int v), (0, .ref (gAd G 96)), (1, .int a0)] → W p l e (gRm 1 26) s m args below meth c H locs 0 0 (MQ below (gQi G (mRings σ (σ 96 25) a0 D N) σ τ) args s 0 0 (gA G)) (F0 m 4 ls []) := by
    intro n
    induction n with
    | zero =>
      intro k v H locs ls hm hv hW hl
      refine lv_iload_n hx hb dX10_ringsIn_4 rfl (lv_at hl 0 rfl) ?_
      refine lv_aload_n hx hb dX10_ringsIn_5 rfl (lv_at hl 2 rfl) ?_
      refine gf_X10_13 C hW (by decide) rfl dX10_ringsIn_6 ?_
      refine lv_iconst (v := 1) hx hb dX10_ringsIn_9 (by decide) ?_
      refine g_ald (v := nI N) 1 C hW (by decide) rfl rfl (by decide) (by decide) hN dX10_ringsIn_10 ?_
      refine lv_icmp_ge (tgt := 53) hx hb dX10_ringsIn_11 (by decide) (fun _ => ?_) (fun zz => absurd (show nI N ≤ nI k from nI_le (by omega) (by omega)) zz)
      refine lv_iload_n hx hb dX10_ringsIn_53 rfl (lv_at hl 1 rfl) ?_
      exact g_iret C hr hlk hW dX10_ringsIn_54 (by rw [hv, show k = N by omega]) (rfl) (rfl)
    | succ n ih4 =>
      intro k v H locs ls hm hv hW hl
      refine lv_iload_n hx hb dX10_ringsIn_4 rfl (lv_at hl 0 rfl) ?_
      refine lv_aload_n hx hb dX10_ringsIn_5 rfl (lv_at hl 2 rfl) ?_
      refine gf_X10_13 C hW (by decide) rfl dX10_ringsIn_6 ?_
      refine lv_iconst (v := 1) hx hb dX10_ringsIn_9 (by decide) ?_
      refine g_ald (v := nI N) 1 C hW (by decide) rfl rfl (by decide) (by decide) hN dX10_ringsIn_10 ?_
      refine lv_icmp_ge (tgt := 53) hx hb dX10_ringsIn_11 (by decide) (fun zz => absurd zz (show ¬ nI N ≤ nI k from nI_ge (by omega) (by omega))) (fun _ => ?_)
      refine lv_iload_n hx hb dX10_ringsIn_14 rfl (lv_at hl 1 rfl) ?_
      refine lv_aload_n hx hb dX10_ringsIn_15 rfl (lv_at hl 2 rfl) ?_
      refine lv_iload_n hx hb dX10_ringsIn_16 rfl (lv_at hl 0 rfl) ?_
      refine lv_iload_n hx hb dX10_ringsIn_17 rfl (lv_at hl 3 rfl) ?_
      refine lv_aload_n hx hb dX10_ringsIn_18 rfl (lv_at hl 2 rfl) ?_
      refine lv_iload_n hx hb dX10_ringsIn_19 rfl (lv_at hl 0 rfl) ?_
      refine lv_iload_n hx hb dX10_ringsIn_20 rfl (lv_at hl 3 rfl) ?_
      refine lv_aload_n hx hb dX10_ringsIn_21 rfl (lv_at hl 2 rfl) ?_
      refine gf_X10_31 C hW (by decide) rfl dX10_ringsIn_22 ?_
      refine lv_bipush (v := 15) hx hb dX10_ringsIn_25 (by decide) ?_
      refine g_ald (v := σ 104 15) 15 C hW (by decide) rfl rfl (by decide) (by decide) rfl dX10_ringsIn_27 ?_
      refine lv_isub hx hb dX10_ringsIn_28 ?_
      refine g_callvI (r := rPl (σ 104) k (a0 - (σ 104 15))) (σ' := σ) (rest := [.int a0, .int (nI k), .ref (gAd G 96), .int v]) (As := [.int (nI k), .int (a0 - (σ 104 15))]) C hW kv_X10_130 96 (by decide) (gL_10 rfl) rfl (m_placeIn l G σ τ (nI k) (a0 - (σ 104 15)) k (by omega) rfl) ⟨Nat.le_of_ble_eq_true rfl, Nat.le_of_ble_eq_true rfl⟩ ⟨Nat.le_refl _, Nat.le_refl _⟩ rfl hl.1 rfl (Nat.le_of_ble_eq_true rfl) dX10_ringsIn_29 (fun H locs hW => ?_)
      refine g_callvI (r := bI (mRung σ (σ 96 25) (nI k) a0 (rPl (σ 104) k (a0 - (σ 104 15))) D)) (σ' := σ) (rest := [.int v]) (As := [.int (nI k), .int a0, .int (rPl (σ 104) k (a0 - (σ 104 15)))]) C hW kv_X10_133 96 (by decide) (gL_10 rfl) rfl (m_isRung l G σ τ (nI k) a0 (rPl (σ 104) k (a0 - (σ 104 15))) D (hD) hD8) ⟨Nat.le_of_ble_eq_true rfl, Nat.le_of_ble_eq_true rfl⟩ ⟨Nat.le_refl _, Nat.le_refl _⟩ rfl hl.1 rfl (Nat.le_of_ble_eq_true rfl) dX10_ringsIn_32 (fun H locs hW => ?_)
      refine lv_if_eq (tgt := 44) hx hb dX10_ringsIn_35 (by decide) (fun c_1 => ?_) (fun c_1 => ?_)
      · skip
        replace c_1 : (mRung σ (σ 96 25) (nI k) a0 (rPl (σ 104) k (a0 - (σ 104 15))) D) = false := bI_eq0.mp c_1
        refine lv_iconst (v := 0) hx hb dX10_ringsIn_44 (by decide) ?_
        refine lv_ior hx hb dX10_ringsIn_45 ?_
        refine lv_istore_n (lv' := [(2, .int (v ||| 0)), (3, .int (nI k)), (0, .ref (gAd G 96)), (1, .int a0)]) hx hb dX10_ringsIn_46 rfl hl (by decide) rfl (fun ls hl => ?_)
        refine lv_iinc (v := nI (k + 1)) (lv' := [(3, .int (nI (k + 1))), (2, .int (v ||| 0)), (0, .ref (gAd G 96)), (1, .int a0)]) hx hb dX10_ringsIn_47 hl (k := 1) rfl (nI_1 _) (by decide) rfl (fun ls hl => ?_)
        refine lv_goto (tgt := 4) hx hb dX10_ringsIn_50 (by decide) ?_
        exact ih4 (k + 1) (v ||| 0) _ _ _ (by omega) (by rw [hv]; simp [rRings, c_1]) hW (lv_sub hl [0, 1, 2, 3] rfl)
      · skip
        replace c_1 : (mRung σ (σ 96 25) (nI k) a0 (rPl (σ 104) k (a0 - (σ 104 15))) D) = true := bI_ne0.mp c_1
        refine lv_iconst (v := 1) hx hb dX10_ringsIn_38 (by decide) ?_
        refine lv_iload_n hx hb dX10_ringsIn_39 rfl (lv_at hl 0 rfl) ?_
        refine lv_ishl hx hb dX10_ringsIn_40 ?_
        refine lv_goto (tgt := 45) hx hb dX10_ringsIn_41 (by decide) ?_
        refine lv_ior hx hb dX10_ringsIn_45 ?_
        refine lv_istore_n (lv' := [(2, .int (v ||| (1 <<< ((nI k) &&& 31)))), (3, .int (nI k)), (0, .ref (gAd G 96)), (1, .int a0)]) hx hb dX10_ringsIn_46 rfl hl (by decide) rfl (fun ls hl => ?_)
        refine lv_iinc (v := nI (k + 1)) (lv' := [(3, .int (nI (k + 1))), (2, .int (v ||| (1 <<< ((nI k) &&& 31)))), (0, .ref (gAd G 96)), (1, .int a0)]) hx hb dX10_ringsIn_47 hl (k := 1) rfl (nI_1 _) (by decide) rfl (fun ls hl => ?_)
        refine lv_goto (tgt := 4) hx hb dX10_ringsIn_50 (by decide) ?_
        exact ih4 (k + 1) (v ||| (1 <<< ((nI k) &&& 31))) _ _ _ (by omega) (by rw [hv]; simp [rRings, c_1]) hW (lv_sub hl [0, 1, 2, 3] rfl)
  exact L4 N 0 0 _ _ _ (by omega) (by first | rfl | simp [bI]) hW (lv_sub hl [0, 1, 2, 3] rfl)
set_option maxHeartbeats 4000000 in
set_option maxRecDepth 100000 in
theorem m_person (l : Launch) (G : gG) (σ : gSt) (τ : Nat → Int64) (a0 a1 : Int32) (D : Nat) (hD : σ 98 2 = nI D) (hD8 : D ≤ 8) (N : Nat) (hN : σ 98 1 = nI N) (hN5 : N ≤ 5) : gI l yX10_person cX10_person 3 (some .int) 2 43 G [.ref (gAd G 96), .int a0, .int a1] σ τ (if mIn a0 0 (σ 98 1 - 1) = true ∧ mIn a1 0 5 = true then (if 3 ≤ a1 then (if a1 = 3 then σ 104 (10 + a0.toNatClampNeg) else if a1 = 5 then σ 99 a0.toNatClampNeg else if ¬ 240 ≤ σ 104 15 ∧ mRung σ (σ 104 16) a0 (σ 104 15) (rPl (σ 104) a0.toNatClampNeg 0) D = true then 1 else 0) else if a1 = 0 then rPl (σ 104) a0.toNatClampNeg 0 else if a1 = 1 then σ 104 a0.toNatClampNeg else σ 104 (5 + a0.toNatClampNeg)) else -1) (if mIn a0 0 (σ 98 1 - 1) = true ∧ mIn a1 0 5 = true then mNowS σ else σ) τ := by
  refine gMet_of (by decide) (Nat.le_of_ble_eq_true rfl) ?_
  intro p e s m args below meth c C hr hlk ls hl hW
  have hx := C.1
  have hb := C.2.1
  have hl : lv_has ls 3 [(0, .ref (gAd G 96)), (1, .int a0), (2, .int a1)] := hl
  refine lv_aload_n hx hb dX10_person_0 rfl (lv_at hl 0 rfl) ?_
  refine lv_iconst (v := 0) hx hb dX10_person_1 (by decide) ?_
  refine gp_X10_62 C hW (by decide) rfl dX10_person_2 (fun H locs hW => ?_)
  refine lv_aload_n hx hb dX10_person_5 rfl (lv_at hl 0 rfl) ?_
  refine lv_iload_n hx hb dX10_person_6 rfl (lv_at hl 1 rfl) ?_
  refine g_callvI (r := bI (mIn a0 0 (σ 98 1 - 1))) (σ' := σ) (rest := []) (As := [.int a0]) C hW kv_X10_136 96 (by decide) (gL_10 rfl) rfl (m_isPerson l G σ τ a0) ⟨Nat.le_of_ble_eq_true rfl, Nat.le_of_ble_eq_true rfl⟩ ⟨Nat.le_refl _, Nat.le_refl _⟩ rfl hl.1 rfl (Nat.le_of_ble_eq_true rfl) dX10_person_7 (fun H locs hW => ?_)
  refine lv_if_eq (tgt := 22) hx hb dX10_person_10 (by decide) (fun c_1 => ?_) (fun c_1 => ?_)
  · skip
    replace c_1 : (mIn a0 0 (σ 98 1 - 1)) = false := bI_eq0.mp c_1
    refine lv_iconst (v := (-1)) hx hb dX10_person_22 (by decide) ?_
    exact g_iret C hr hlk hW dX10_person_23 (by simp [c_1]) (by simp [c_1]) (rfl)
  · skip
    replace c_1 : (mIn a0 0 (σ 98 1 - 1)) = true := bI_ne0.mp c_1
    refine lv_iload_n hx hb dX10_person_13 rfl (lv_at hl 2 rfl) ?_
    refine lv_iconst (v := 0) hx hb dX10_person_14 (by decide) ?_
    refine lv_iconst (v := 5) hx hb dX10_person_15 (by decide) ?_
    refine g_callsI (r := bI (mIn a1 0 5)) (σ' := σ) (rest := []) (As := [.int a1, .int 0, .int 5]) C hW ks_X10_66 (m_in l G σ τ a1 0 5) ⟨Nat.le_of_ble_eq_true rfl, Nat.le_of_ble_eq_true rfl⟩ ⟨Nat.le_refl _, Nat.le_refl _⟩ rfl hl.1 rfl (Nat.le_of_ble_eq_true rfl) dX10_person_16 (fun H locs hW => ?_)
    refine lv_if_ne (tgt := 24) hx hb dX10_person_19 (by decide) (fun c_2 => ?_) (fun c_2 => ?_)
    · skip
      replace c_2 : (mIn a1 0 5) = true := bI_ne0.mp c_2
      have hp0 := c_1
      rw [hN] at hp0
      have hp := mIn_nat (N := N) hp0 (by omega)
      refine lv_aload_n hx hb dX10_person_24 rfl (lv_at hl 0 rfl) ?_
      refine g_callvV (σ' := gu σ 96 25 (σ 104 16)) (rest := []) (As := []) C hW kv_X10_139 96 (by decide) (gL_10 rfl) rfl (m_asNow l G σ τ) ⟨Nat.le_of_ble_eq_true rfl, Nat.le_of_ble_eq_true rfl⟩ ⟨Nat.le_refl _, Nat.le_refl _⟩ rfl hl.1 rfl (Nat.le_of_ble_eq_true rfl) dX10_person_25 (fun H locs hW => ?_)
      refine lv_iload_n hx hb dX10_person_28 rfl (lv_at hl 2 rfl) ?_
      refine lv_iconst (v := 3) hx hb dX10_person_29 (by decide) ?_
      refine lv_icmp_ge (tgt := 71) hx hb dX10_person_30 (by decide) (fun c_3 => ?_) (fun c_3 => ?_)
      · skip
        refine lv_iload_n hx hb dX10_person_71 rfl (lv_at hl 2 rfl) ?_
        refine lv_iconst (v := 3) hx hb dX10_person_72 (by decide) ?_
        refine lv_icmp_ne (tgt := 88) hx hb dX10_person_73 (by decide) (fun c_4 => ?_) (fun c_4 => ?_)
        · skip
          refine lv_iload_n hx hb dX10_person_88 rfl (lv_at hl 2 rfl) ?_
          refine lv_iconst (v := 5) hx hb dX10_person_89 (by decide) ?_
          refine lv_icmp_ne (tgt := 102) hx hb dX10_person_90 (by decide) (fun c_5 => ?_) (fun c_5 => ?_)
          · skip
            refine lv_aload_n hx hb dX10_person_102 rfl (lv_at hl 0 rfl) ?_
            refine gf_X10_31 C hW (by decide) rfl dX10_person_103 ?_
            refine lv_bipush (v := 15) hx hb dX10_person_106 (by decide) ?_
            refine g_ald (v := σ 104 15) 15 C hW (by decide) rfl rfl (by decide) (by decide) rfl dX10_person_108 ?_
            refine lv_sipush (v := 240) hx hb dX10_person_109 (by decide) ?_
            refine lv_icmp_ge (tgt := 140) hx hb dX10_person_112 (by decide) (fun c_6 => ?_) (fun c_6 => ?_)
            · skip
              refine lv_iconst (v := 0) hx hb dX10_person_140 (by decide) ?_
              exact g_iret C hr hlk hW dX10_person_141 (by rw [if_pos ⟨c_1, c_2⟩]; simp [c_3, c_4, c_5, c_6]) (by rw [if_pos ⟨c_1, c_2⟩]) (rfl)
            · skip
              refine lv_aload_n hx hb dX10_person_115 rfl (lv_at hl 0 rfl) ?_
              refine lv_iload_n hx hb dX10_person_116 rfl (lv_at hl 1 rfl) ?_
              refine lv_aload_n hx hb dX10_person_117 rfl (lv_at hl 0 rfl) ?_
              refine gf_X10_31 C hW (by decide) rfl dX10_person_118 ?_
              refine lv_bipush (v := 15) hx hb dX10_person_121 (by decide) ?_
              refine g_ald (v := σ 104 15) 15 C hW (by decide) rfl rfl (by decide) (by decide) rfl dX10_person_123 ?_
              refine lv_aload_n hx hb dX10_person_124 rfl (lv_at hl 0 rfl) ?_
              refine lv_iload_n hx hb dX10_person_125 rfl (lv_at hl 1 rfl) ?_
              refine lv_iconst (v := 0) hx hb dX10_person_126 (by decide) ?_
              refine g_callvI (r := rPl (σ 104) a0.toNatClampNeg 0) (σ' := gu σ 96 25 (σ 104 16)) (rest := [.int (σ 104 15), .int a0, .ref (gAd G 96)]) (As := [.int a0, .int 0]) C hW kv_X10_130 96 (by decide) (gL_10 rfl) rfl (m_placeIn l G (gu σ 96 25 (σ 104 16)) τ a0 0 a0.toNatClampNeg (by omega) hp.1) ⟨Nat.le_of_ble_eq_true rfl, Nat.le_of_ble_eq_true rfl⟩ ⟨Nat.le_refl _, Nat.le_refl _⟩ rfl hl.1 rfl (Nat.le_of_ble_eq_true rfl) dX10_person_127 (fun H locs hW => ?_)
              refine g_callvI (r := bI (mRung σ (σ 104 16) a0 (σ 104 15) (rPl (σ 104) a0.toNatClampNeg 0) D)) (σ' := gu σ 96 25 (σ 104 16)) (rest := []) (As := [.int a0, .int (σ 104 15), .int (rPl (σ 104) a0.toNatClampNeg 0)]) C hW kv_X10_133 96 (by decide) (gL_10 rfl) rfl (m_isRung l G (gu σ 96 25 (σ 104 16)) τ a0 (σ 104 15) (rPl (σ 104) a0.toNatClampNeg 0) D (hD) hD8) ⟨Nat.le_of_ble_eq_true rfl, Nat.le_of_ble_eq_true rfl⟩ ⟨Nat.le_refl _, Nat.le_refl _⟩ rfl hl.1 rfl (Nat.le_of_ble_eq_true rfl) dX10_person_130 (fun H locs hW => ?_)
              refine lv_if_eq (tgt := 140) hx hb dX10_person_133 (by decide) (fun c_7 => ?_) (fun c_7 => ?_)
              · skip
                replace c_7 : (mRung σ (σ 104 16) a0 (σ 104 15) (rPl (σ 104) a0.toNatClampNeg 0) D) = false := bI_eq0.mp c_7
                refine lv_iconst (v := 0) hx hb dX10_person_140 (by decide) ?_
                exact g_iret C hr hlk hW dX10_person_141 (by rw [if_pos ⟨c_1, c_2⟩]; simp [c_3, c_4, c_5, c_6, c_7]) (by rw [if_pos ⟨c_1, c_2⟩]) (rfl)
              · skip
                replace c_7 : (mRung σ (σ 104 16) a0 (σ 104 15) (rPl (σ 104) a0.toNatClampNeg 0) D) = true := bI_ne0.mp c_7
                refine lv_iconst (v := 1) hx hb dX10_person_136 (by decide) ?_
                refine lv_goto (tgt := 141) hx hb dX10_person_137 (by decide) ?_
                exact g_iret C hr hlk hW dX10_person_141 (by rw [if_pos ⟨c_1, c_2⟩]; simp [c_3, c_4, c_5, c_6, c_7]) (by rw [if_pos ⟨c_1, c_2⟩]) (rfl)
          · skip
            refine lv_aload_n hx hb dX10_person_93 rfl (lv_at hl 0 rfl) ?_
            refine gf_X10_16 C hW (by decide) rfl dX10_person_94 ?_
            refine lv_iload_n hx hb dX10_person_97 rfl (lv_at hl 1 rfl) ?_
            refine g_ald (v := σ 99 a0.toNatClampNeg) a0.toNatClampNeg C hW (by decide) rfl hp.1 (show a0.toNatClampNeg < 10 by omega) (by decide) rfl dX10_person_98 ?_
            refine lv_goto (tgt := 141) hx hb dX10_person_99 (by decide) ?_
            exact g_iret C hr hlk hW dX10_person_141 (by rw [if_pos ⟨c_1, c_2⟩]; simp [c_3, c_4, c_5]) (by rw [if_pos ⟨c_1, c_2⟩]) (rfl)
        · skip
          refine lv_aload_n hx hb dX10_person_76 rfl (lv_at hl 0 rfl) ?_
          refine gf_X10_31 C hW (by decide) rfl dX10_person_77 ?_
          refine lv_bipush (v := 10) hx hb dX10_person_80 (by decide) ?_
          refine lv_iload_n hx hb dX10_person_82 rfl (lv_at hl 1 rfl) ?_
          refine lv_iadd hx hb dX10_person_83 ?_
          refine g_ald (v := σ 104 (10 + a0.toNatClampNeg)) (10 + a0.toNatClampNeg) C hW (by decide) rfl (gadd (rfl : 10 = nI 10) hp.1) (show (10 + a0.toNatClampNeg) < 25 by omega) (by decide) rfl dX10_person_84 ?_
          refine lv_goto (tgt := 141) hx hb dX10_person_85 (by decide) ?_
          exact g_iret C hr hlk hW dX10_person_141 (by rw [if_pos ⟨c_1, c_2⟩]; simp [c_3, c_4]) (by rw [if_pos ⟨c_1, c_2⟩]) (rfl)
      · skip
        refine lv_iload_n hx hb dX10_person_33 rfl (lv_at hl 2 rfl) ?_
        refine lv_if_ne (tgt := 46) hx hb dX10_person_34 (by decide) (fun c_8 => ?_) (fun c_8 => ?_)
        · skip
          refine lv_iload_n hx hb dX10_person_46 rfl (lv_at hl 2 rfl) ?_
          refine lv_iconst (v := 1) hx hb dX10_person_47 (by decide) ?_
          refine lv_icmp_ne (tgt := 62) hx hb dX10_person_48 (by decide) (fun c_9 => ?_) (fun c_9 => ?_)
          · skip
            refine lv_aload_n hx hb dX10_person_62 rfl (lv_at hl 0 rfl) ?_
            refine gf_X10_31 C hW (by decide) rfl dX10_person_63 ?_
            refine lv_iconst (v := 5) hx hb dX10_person_66 (by decide) ?_
            refine lv_iload_n hx hb dX10_person_67 rfl (lv_at hl 1 rfl) ?_
            refine lv_iadd hx hb dX10_person_68 ?_
            refine g_ald (v := σ 104 (5 + a0.toNatClampNeg)) (5 + a0.toNatClampNeg) C hW (by decide) rfl (gadd (rfl : 5 = nI 5) hp.1) (show (5 + a0.toNatClampNeg) < 25 by omega) (by decide) rfl dX10_person_69 ?_
            exact g_iret C hr hlk hW dX10_person_70 (by rw [if_pos ⟨c_1, c_2⟩]; simp [c_3, c_8, c_9]) (by rw [if_pos ⟨c_1, c_2⟩]) (rfl)
          · skip
            refine lv_aload_n hx hb dX10_person_51 rfl (lv_at hl 0 rfl) ?_
            refine gf_X10_31 C hW (by decide) rfl dX10_person_52 ?_
            refine lv_iconst (v := 0) hx hb dX10_person_55 (by decide) ?_
            refine lv_iload_n hx hb dX10_person_56 rfl (lv_at hl 1 rfl) ?_
            refine lv_iadd hx hb dX10_person_57 ?_
            refine g_ald (v := σ 104 a0.toNatClampNeg) a0.toNatClampNeg C hW (by decide) rfl (gz hp.1) (show a0.toNatClampNeg < 25 by omega) (by decide) rfl dX10_person_58 ?_
            refine lv_goto (tgt := 70) hx hb dX10_person_59 (by decide) ?_
            exact g_iret C hr hlk hW dX10_person_70 (by rw [if_pos ⟨c_1, c_2⟩]; simp [c_3, c_8, c_9]) (by rw [if_pos ⟨c_1, c_2⟩]) (rfl)
        · skip
          refine lv_aload_n hx hb dX10_person_37 rfl (lv_at hl 0 rfl) ?_
          refine lv_iload_n hx hb dX10_person_38 rfl (lv_at hl 1 rfl) ?_
          refine lv_iconst (v := 0) hx hb dX10_person_39 (by decide) ?_
          refine g_callvI (r := rPl (σ 104) a0.toNatClampNeg 0) (σ' := gu σ 96 25 (σ 104 16)) (rest := []) (As := [.int a0, .int 0]) C hW kv_X10_130 96 (by decide) (gL_10 rfl) rfl (m_placeIn l G (gu σ 96 25 (σ 104 16)) τ a0 0 a0.toNatClampNeg (by omega) hp.1) ⟨Nat.le_of_ble_eq_true rfl, Nat.le_of_ble_eq_true rfl⟩ ⟨Nat.le_refl _, Nat.le_refl _⟩ rfl hl.1 rfl (Nat.le_of_ble_eq_true rfl) dX10_person_40 (fun H locs hW => ?_)
          refine lv_goto (tgt := 70) hx hb dX10_person_43 (by decide) ?_
          exact g_iret C hr hlk hW dX10_person_70 (by rw [if_pos ⟨c_1, c_2⟩]; simp [c_3, c_8]) (by rw [if_pos ⟨c_1, c_2⟩]) (rfl)
    · skip
      replace c_2 : (mIn a1 0 5) = false := bI_eq0.mp c_2
      refine lv_iconst (v := (-1)) hx hb dX10_person_22 (by decide) ?_
      exact g_iret C hr hlk hW dX10_person_23 (by simp [c_1, c_2]) (by simp [c_1, c_2]) (rfl)
set_option maxHeartbeats 4000000 in
set_option maxRecDepth 100000 in
theorem m_duty (l : Launch) (G : gG) (σ : gSt) (τ : Nat → Int64) (a0 a1 : Int32) (D : Nat) (hD : σ 98 2 = nI D) (hD8 : D ≤ 8) : gI l yX10_duty cX10_duty 3 (some .int) 2 43 G [.ref (gAd G 96), .int a0, .int a1] σ τ (if mIn a0 0 (σ 98 2 - 1) = true ∧ mIn a1 0 4 = true then (if a1 = 0 then σ 104 (17 + a0.toNatClampNeg) else if a1 = 1 then σ 101 a0.toNatClampNeg else if a1 = 2 then σ 102 a0.toNatClampNeg else if a1 = 3 then σ 103 a0.toNatClampNeg else (σ 104 16 >>> (a0 &&& 31)) &&& 1) else -1) σ τ := by
  refine gMet_of (by decide) (Nat.le_of_ble_eq_true rfl) ?_
  intro p e s m args below meth c C hr hlk ls hl hW
  have hx := C.1
  have hb := C.2.1
  have hl : lv_has ls 3 [(0, .ref (gAd G 96)), (1, .int a0), (2, .int a1)] := hl
  refine lv_aload_n hx hb dX10_duty_0 rfl (lv_at hl 0 rfl) ?_
  refine lv_iconst (v := 0) hx hb dX10_duty_1 (by decide) ?_
  refine gp_X10_62 C hW (by decide) rfl dX10_duty_2 (fun H locs hW => ?_)
  refine lv_aload_n hx hb dX10_duty_5 rfl (lv_at hl 0 rfl) ?_
  refine lv_iload_n hx hb dX10_duty_6 rfl (lv_at hl 1 rfl) ?_
  refine g_callvI (r := bI (mIn a0 0 (σ 98 2 - 1))) (σ' := σ) (rest := []) (As := [.int a0]) C hW kv_X10_142 96 (by decide) (gL_10 rfl) rfl (m_isDuty l G σ τ a0) ⟨Nat.le_of_ble_eq_true rfl, Nat.le_of_ble_eq_true rfl⟩ ⟨Nat.le_refl _, Nat.le_refl _⟩ rfl hl.1 rfl (Nat.le_of_ble_eq_true rfl) dX10_duty_7 (fun H locs hW => ?_)
  refine lv_if_eq (tgt := 22) hx hb dX10_duty_10 (by decide) (fun c_1 => ?_) (fun c_1 => ?_)
  · skip
    replace c_1 : (mIn a0 0 (σ 98 2 - 1)) = false := bI_eq0.mp c_1
    refine lv_iconst (v := (-1)) hx hb dX10_duty_22 (by decide) ?_
    exact g_iret C hr hlk hW dX10_duty_23 (by simp [c_1]) (rfl) (rfl)
  · skip
    replace c_1 : (mIn a0 0 (σ 98 2 - 1)) = true := bI_ne0.mp c_1
    refine lv_iload_n hx hb dX10_duty_13 rfl (lv_at hl 2 rfl) ?_
    refine lv_iconst (v := 0) hx hb dX10_duty_14 (by decide) ?_
    refine lv_iconst (v := 4) hx hb dX10_duty_15 (by decide) ?_
    refine g_callsI (r := bI (mIn a1 0 4)) (σ' := σ) (rest := []) (As := [.int a1, .int 0, .int 4]) C hW ks_X10_66 (m_in l G σ τ a1 0 4) ⟨Nat.le_of_ble_eq_true rfl, Nat.le_of_ble_eq_true rfl⟩ ⟨Nat.le_refl _, Nat.le_refl _⟩ rfl hl.1 rfl (Nat.le_of_ble_eq_true rfl) dX10_duty_16 (fun H locs hW => ?_)
    refine lv_if_ne (tgt := 24) hx hb dX10_duty_19 (by decide) (fun c_2 => ?_) (fun c_2 => ?_)
    · skip
      replace c_2 : (mIn a1 0 4) = true := bI_ne0.mp c_2
      have hp0 := c_1
      rw [hD] at hp0
      have hp := mIn_nat (N := D) hp0 (by omega)
      refine lv_iload_n hx hb dX10_duty_24 rfl (lv_at hl 2 rfl) ?_
      refine lv_if_ne (tgt := 40) hx hb dX10_duty_25 (by decide) (fun c_3 => ?_) (fun c_3 => ?_)
      · skip
        refine lv_iload_n hx hb dX10_duty_40 rfl (lv_at hl 2 rfl) ?_
        refine lv_iconst (v := 1) hx hb dX10_duty_41 (by decide) ?_
        refine lv_icmp_ne (tgt := 54) hx hb dX10_duty_42 (by decide) (fun c_4 => ?_) (fun c_4 => ?_)
        · skip
          refine lv_iload_n hx hb dX10_duty_54 rfl (lv_at hl 2 rfl) ?_
          refine lv_iconst (v := 2) hx hb dX10_duty_55 (by decide) ?_
          refine lv_icmp_ne (tgt := 68) hx hb dX10_duty_56 (by decide) (fun c_5 => ?_) (fun c_5 => ?_)
          · skip
            refine lv_iload_n hx hb dX10_duty_68 rfl (lv_at hl 2 rfl) ?_
            refine lv_iconst (v := 3) hx hb dX10_duty_69 (by decide) ?_
            refine lv_icmp_ne (tgt := 82) hx hb dX10_duty_70 (by decide) (fun c_6 => ?_) (fun c_6 => ?_)
            · skip
              refine lv_aload_n hx hb dX10_duty_82 rfl (lv_at hl 0 rfl) ?_
              refine gf_X10_31 C hW (by decide) rfl dX10_duty_83 ?_
              refine lv_bipush (v := 16) hx hb dX10_duty_86 (by decide) ?_
              refine g_ald (v := σ 104 16) 16 C hW (by decide) rfl rfl (by decide) (by decide) rfl dX10_duty_88 ?_
              refine lv_iload_n hx hb dX10_duty_89 rfl (lv_at hl 1 rfl) ?_
              refine lv_ishr hx hb dX10_duty_90 ?_
              refine lv_iconst (v := 1) hx hb dX10_duty_91 (by decide) ?_
              refine lv_iand hx hb dX10_duty_92 ?_
              exact g_iret C hr hlk hW dX10_duty_93 (by rw [if_pos ⟨c_1, c_2⟩]; simp [c_3, c_4, c_5, c_6]) (rfl) (rfl)
            · skip
              refine lv_aload_n hx hb dX10_duty_73 rfl (lv_at hl 0 rfl) ?_
              refine gf_X10_28 C hW (by decide) rfl dX10_duty_74 ?_
              refine lv_iload_n hx hb dX10_duty_77 rfl (lv_at hl 1 rfl) ?_
              refine g_ald (v := σ 103 a0.toNatClampNeg) a0.toNatClampNeg C hW (by decide) rfl hp.1 (show a0.toNatClampNeg < 16 by omega) (by decide) rfl dX10_duty_78 ?_
              refine lv_goto (tgt := 93) hx hb dX10_duty_79 (by decide) ?_
              exact g_iret C hr hlk hW dX10_duty_93 (by rw [if_pos ⟨c_1, c_2⟩]; simp [c_3, c_4, c_5, c_6]) (rfl) (rfl)
          · skip
            refine lv_aload_n hx hb dX10_duty_59 rfl (lv_at hl 0 rfl) ?_
            refine gf_X10_25 C hW (by decide) rfl dX10_duty_60 ?_
            refine lv_iload_n hx hb dX10_duty_63 rfl (lv_at hl 1 rfl) ?_
            refine g_ald (v := σ 102 a0.toNatClampNeg) a0.toNatClampNeg C hW (by decide) rfl hp.1 (show a0.toNatClampNeg < 16 by omega) (by decide) rfl dX10_duty_64 ?_
            refine lv_goto (tgt := 93) hx hb dX10_duty_65 (by decide) ?_
            exact g_iret C hr hlk hW dX10_duty_93 (by rw [if_pos ⟨c_1, c_2⟩]; simp [c_3, c_4, c_5]) (rfl) (rfl)
        · skip
          refine lv_aload_n hx hb dX10_duty_45 rfl (lv_at hl 0 rfl) ?_
          refine gf_X10_22 C hW (by decide) rfl dX10_duty_46 ?_
          refine lv_iload_n hx hb dX10_duty_49 rfl (lv_at hl 1 rfl) ?_
          refine g_ald (v := σ 101 a0.toNatClampNeg) a0.toNatClampNeg C hW (by decide) rfl hp.1 (show a0.toNatClampNeg < 16 by omega) (by decide) rfl dX10_duty_50 ?_
          refine lv_goto (tgt := 93) hx hb dX10_duty_51 (by decide) ?_
          exact g_iret C hr hlk hW dX10_duty_93 (by rw [if_pos ⟨c_1, c_2⟩]; simp [c_3, c_4]) (rfl) (rfl)
      · skip
        refine lv_aload_n hx hb dX10_duty_28 rfl (lv_at hl 0 rfl) ?_
        refine gf_X10_31 C hW (by decide) rfl dX10_duty_29 ?_
        refine lv_bipush (v := 17) hx hb dX10_duty_32 (by decide) ?_
        refine lv_iload_n hx hb dX10_duty_34 rfl (lv_at hl 1 rfl) ?_
        refine lv_iadd hx hb dX10_duty_35 ?_
        refine g_ald (v := σ 104 (17 + a0.toNatClampNeg)) (17 + a0.toNatClampNeg) C hW (by decide) rfl (gadd (rfl : 17 = nI 17) hp.1) (show (17 + a0.toNatClampNeg) < 25 by omega) (by decide) rfl dX10_duty_36 ?_
        refine lv_goto (tgt := 93) hx hb dX10_duty_37 (by decide) ?_
        exact g_iret C hr hlk hW dX10_duty_93 (by rw [if_pos ⟨c_1, c_2⟩]; simp [c_3]) (rfl) (rfl)
    · skip
      replace c_2 : (mIn a1 0 4) = false := bI_eq0.mp c_2
      refine lv_iconst (v := (-1)) hx hb dX10_duty_22 (by decide) ?_
      exact g_iret C hr hlk hW dX10_duty_23 (by simp [c_1, c_2]) (rfl) (rfl)
set_option maxHeartbeats 4000000 in
set_option maxRecDepth 100000 in
theorem m_worst (l : Launch) (G : gG) (σ : gSt) (τ : Nat → Int64) (N : Nat) (hN : σ 98 1 = nI N) (hN5 : N ≤ 5) : gI l yX10_worst cX10_worst 3 (some .int) 0 0 G [.ref (gAd G 96)] σ τ (rWorst (σ 104) N N) σ τ := by
  refine gMet_of (by decide) (Nat.le_of_ble_eq_true rfl) ?_
  intro p e s m args below meth c C hr hlk ls hl hW
  have hx := C.1
  have hb := C.2.1
  have hl : lv_has ls 3 [(0, .ref (gAd G 96))] := hl
  refine lv_bipush (v := (-9)) hx hb dX10_worst_0 (by decide) ?_
  refine lv_istore_n (lv' := [(1, .int (-9)), (0, .ref (gAd G 96))]) hx hb dX10_worst_2 rfl hl (by decide) rfl (fun ls hl => ?_)
  refine lv_aload_n hx hb dX10_worst_3 rfl (lv_at hl 1 rfl) ?_
  refine gf_X10_13 C hW (by decide) rfl dX10_worst_4 ?_
  refine lv_iconst (v := 1) hx hb dX10_worst_7 (by decide) ?_
  refine g_ald (v := nI N) 1 C hW (by decide) rfl rfl (by decide) (by decide) hN dX10_worst_8 ?_
  refine lv_iconst (v := 1) hx hb dX10_worst_9 (by decide) ?_
  refine lv_isub hx hb dX10_worst_10 ?_
  refine lv_istore_n (lv' := [(2, .int ((nI N) - 1)), (1, .int (-9)), (0, .ref (gAd G 96))]) hx hb dX10_worst_11 rfl hl (by decide) rfl (fun ls hl => ?_)
  have L12 : ∀ (n : Nat) (i : Nat) (v : Int32) (H : Heap) (locs : List Loc) (ls : Array Slot), n + i = N → v = rWorst (σ 104) N i → gW G s σ τ H locs → lv_has ls 3 [(2, .int (nI n - 1)), (1, .int v), (0, .ref (gAd G 96))] → W p l e (gRm 0 0) s m args below meth c H locs 0 0 (MQ below (gQi G (rWorst (σ 104) N N) σ τ) args s 0 0 (gA G)) (F0 m 12 ls []) := by
    intro n
    induction n with
    | zero =>
      intro i v H locs ls hm hv hW hl
      have hl : lv_has ls 3 [(2, .int (-1)), (1, .int v), (0, .ref (gAd G 96))] := hl
      refine lv_iload_n hx hb dX10_worst_12 rfl (lv_at hl 0 rfl) ?_
      refine lv_if_lt (tgt := 67) hx hb dX10_worst_13 (by decide) (fun _ => ?_) (fun zz => absurd (by decide) zz)
      refine lv_iload_n hx hb dX10_worst_67 rfl (lv_at hl 1 rfl) ?_
      exact g_iret C hr hlk hW dX10_worst_68 (by rw [hv, show i = N by omega]) (rfl) (rfl)
    | succ n ih12 =>
      intro i v H locs ls hm hv hW hl
      rw [nI_pred] at hl
      have hi : N - 1 - i = n := by omega
      refine lv_iload_n hx hb dX10_worst_12 rfl (lv_at hl 0 rfl) ?_
      refine lv_if_lt (tgt := 67) hx hb dX10_worst_13 (by decide) (fun zz => absurd zz (nI_pos (by omega))) (fun _ => ?_)
      refine lv_aload_n hx hb dX10_worst_16 rfl (lv_at hl 2 rfl) ?_
      refine gf_X10_31 C hW (by decide) rfl dX10_worst_17 ?_
      refine lv_bipush (v := 10) hx hb dX10_worst_20 (by decide) ?_
      refine lv_iload_n hx hb dX10_worst_22 rfl (lv_at hl 0 rfl) ?_
      refine lv_iadd hx hb dX10_worst_23 ?_
      refine g_ald (v := σ 104 (10 + n)) (10 + n) C hW (by decide) rfl (gadd (rfl : 10 = nI 10) (rfl : nI n = nI n)) (show (10 + n) < 25 by omega) (by decide) rfl dX10_worst_24 ?_
      refine lv_if_le (tgt := 59) hx hb dX10_worst_25 (by decide) (fun c_1 => ?_) (fun c_1 => ?_)
      · skip
        refine lv_iload_n hx hb dX10_worst_59 rfl (lv_at hl 1 rfl) ?_
        refine lv_istore_n (lv' := [(1, .int v), (2, .int (nI n)), (0, .ref (gAd G 96))]) hx hb dX10_worst_60 rfl hl (by decide) rfl (fun ls hl => ?_)
        refine lv_iinc (v := (nI n) - 1) (lv' := [(2, .int ((nI n) - 1)), (1, .int v), (0, .ref (gAd G 96))]) hx hb dX10_worst_61 hl (k := 1) rfl (gdec _) (by decide) rfl (fun ls hl => ?_)
        refine lv_goto (tgt := 12) hx hb dX10_worst_64 (by decide) ?_
        exact ih12 (i + 1) v _ _ _ (by omega) (by rw [rWorst, hi, if_pos c_1, hv]) hW (lv_sub hl [0, 1, 2] rfl)
      · skip
        refine lv_iload_n hx hb dX10_worst_28 rfl (lv_at hl 1 rfl) ?_
        refine lv_bipush (v := (-9)) hx hb dX10_worst_29 (by decide) ?_
        refine lv_icmp_eq (tgt := 55) hx hb dX10_worst_31 (by decide) (fun c_2 => ?_) (fun c_2 => ?_)
        · skip
          refine lv_iload_n hx hb dX10_worst_55 rfl (lv_at hl 0 rfl) ?_
          refine lv_goto (tgt := 60) hx hb dX10_worst_56 (by decide) ?_
          refine lv_istore_n (lv' := [(1, .int (nI n)), (2, .int (nI n)), (0, .ref (gAd G 96))]) hx hb dX10_worst_60 rfl hl (by decide) rfl (fun ls hl => ?_)
          refine lv_iinc (v := (nI n) - 1) (lv' := [(2, .int ((nI n) - 1)), (1, .int (nI n)), (0, .ref (gAd G 96))]) hx hb dX10_worst_61 hl (k := 1) rfl (gdec _) (by decide) rfl (fun ls hl => ?_)
          refine lv_goto (tgt := 12) hx hb dX10_worst_64 (by decide) ?_
          exact ih12 (i + 1) (nI n) _ _ _ (by omega) (by rw [rWorst, hi, if_neg c_1, if_pos (by rw [← hv]; exact c_2)]) hW (lv_sub hl [0, 1, 2] rfl)
        · skip
          obtain ⟨j, hj, hj2⟩ : ∃ j, j < N ∧ v = nI j := by
            rcases rWorst_nat (sr := σ 104) hN5 i (by omega) with q | ⟨j, q1, q2⟩
            · exact absurd (by rw [hv, q]) c_2
            · exact ⟨j, q1, by rw [hv, q2]⟩
          refine lv_aload_n hx hb dX10_worst_34 rfl (lv_at hl 2 rfl) ?_
          refine gf_X10_31 C hW (by decide) rfl dX10_worst_35 ?_
          refine lv_bipush (v := 10) hx hb dX10_worst_38 (by decide) ?_
          refine lv_iload_n hx hb dX10_worst_40 rfl (lv_at hl 0 rfl) ?_
          refine lv_iadd hx hb dX10_worst_41 ?_
          refine g_ald (v := σ 104 (10 + n)) (10 + n) C hW (by decide) rfl (gadd (rfl : 10 = nI 10) (rfl : nI n = nI n)) (show (10 + n) < 25 by omega) (by decide) rfl dX10_worst_42 ?_
          refine lv_aload_n hx hb dX10_worst_43 rfl (lv_at hl 2 rfl) ?_
          refine gf_X10_31 C hW (by decide) rfl dX10_worst_44 ?_
          refine lv_bipush (v := 10) hx hb dX10_worst_47 (by decide) ?_
          refine lv_iload_n hx hb dX10_worst_49 rfl (lv_at hl 1 rfl) ?_
          refine lv_iadd hx hb dX10_worst_50 ?_
          refine g_ald (v := σ 104 (10 + j)) (10 + j) C hW (by decide) rfl (gadd (rfl : 10 = nI 10) hj2) (show (10 + j) < 25 by omega) (by decide) rfl dX10_worst_51 ?_
          refine lv_icmp_lt (tgt := 59) hx hb dX10_worst_52 (by decide) (fun c_3 => ?_) (fun c_3 => ?_)
          · skip
            refine lv_iload_n hx hb dX10_worst_59 rfl (lv_at hl 1 rfl) ?_
            refine lv_istore_n (lv' := [(1, .int v), (2, .int (nI n)), (0, .ref (gAd G 96))]) hx hb dX10_worst_60 rfl hl (by decide) rfl (fun ls hl => ?_)
            refine lv_iinc (v := (nI n) - 1) (lv' := [(2, .int ((nI n) - 1)), (1, .int v), (0, .ref (gAd G 96))]) hx hb dX10_worst_61 hl (k := 1) rfl (gdec _) (by decide) rfl (fun ls hl => ?_)
            refine lv_goto (tgt := 12) hx hb dX10_worst_64 (by decide) ?_
            exact ih12 (i + 1) v _ _ _ (by omega) (by rw [rWorst, hi, if_neg c_1, if_neg (by rw [← hv]; exact c_2), ← hv, hj2, nI_clamp (by omega), if_pos c_3]) hW (lv_sub hl [0, 1, 2] rfl)
          · skip
            refine lv_iload_n hx hb dX10_worst_55 rfl (lv_at hl 0 rfl) ?_
            refine lv_goto (tgt := 60) hx hb dX10_worst_56 (by decide) ?_
            refine lv_istore_n (lv' := [(1, .int (nI n)), (2, .int (nI n)), (0, .ref (gAd G 96))]) hx hb dX10_worst_60 rfl hl (by decide) rfl (fun ls hl => ?_)
            refine lv_iinc (v := (nI n) - 1) (lv' := [(2, .int ((nI n) - 1)), (1, .int (nI n)), (0, .ref (gAd G 96))]) hx hb dX10_worst_61 hl (k := 1) rfl (gdec _) (by decide) rfl (fun ls hl => ?_)
            refine lv_goto (tgt := 12) hx hb dX10_worst_64 (by decide) ?_
            exact ih12 (i + 1) (nI n) _ _ _ (by omega) (by rw [rWorst, hi, if_neg c_1, if_neg (by rw [← hv]; exact c_2), ← hv, hj2, nI_clamp (by omega), if_neg c_3]) hW (lv_sub hl [0, 1, 2] rfl)
  exact L12 N 0 (-9) _ _ _ (by omega) (by first | rfl | simp [bI]) hW (lv_sub hl [0, 1, 2] rfl)
set_option maxHeartbeats 4000000 in
set_option maxRecDepth 100000 in
theorem m_firstRung (l : Launch) (G : gG) (σ : gSt) (τ : Nat → Int64) (D : Nat) (hD : σ 98 2 = nI D) (hD8 : D ≤ 8) (N : Nat) (hN : σ 98 1 = nI N) (hN5 : N ≤ 5) (mi : Nat) (hmi : σ 104 15 = nI mi) (hmi2 : mi ≤ 240) : gI l yX10_firstRung cX10_firstRung 2 (some .int) 2 49 G [.ref (gAd G 96)] σ τ (rFirst (fun m => !decide (mRings σ (σ 104 16) (nI m) D N = 0)) (240 - mi) mi) (mNowS σ) τ := by
  refine gMet_of (by decide) (Nat.le_of_ble_eq_true rfl) ?_
  intro p e s m args below meth c C hr hlk ls hl hW
  have hx := C.1
  have hb := C.2.1
  have hl : lv_has ls 2 [(0, .ref (gAd G 96))] := hl
  refine lv_aload_n hx hb dX10_firstRung_0 rfl (lv_at hl 0 rfl) ?_
  refine g_callvV (σ' := gu σ 96 25 (σ 104 16)) (rest := []) (As := []) C hW kv_X10_139 96 (by decide) (gL_10 rfl) rfl (m_asNow l G σ τ) ⟨Nat.le_of_ble_eq_true rfl, Nat.le_of_ble_eq_true rfl⟩ ⟨Nat.le_refl _, Nat.le_refl _⟩ rfl hl.1 rfl (Nat.le_of_ble_eq_true rfl) dX10_firstRung_1 (fun H locs hW => ?_)
  refine lv_aload_n hx hb dX10_firstRung_4 rfl (lv_at hl 0 rfl) ?_
  refine gf_X10_31 C hW (by decide) rfl dX10_firstRung_5 ?_
  refine lv_bipush (v := 15) hx hb dX10_firstRung_8 (by decide) ?_
  refine g_ald (v := nI mi) 15 C hW (by decide) rfl rfl (by decide) (by decide) hmi dX10_firstRung_10 ?_
  refine lv_istore_n (lv' := [(1, .int (nI mi)), (0, .ref (gAd G 96))]) hx hb dX10_firstRung_11 rfl hl (by decide) rfl (fun ls hl => ?_)
  have L12 : ∀ (n : Nat) (m_ : Nat) (H : Heap) (locs : List Loc) (ls : Array Slot), n + m_ = 240 → rFirst (fun m => !decide (mRings σ (σ 104 16) (nI m) D N = 0)) n m_ = rFirst (fun m => !decide (mRings σ (σ 104 16) (nI m) D N = 0)) (240 - mi) mi → gW G s (gu σ 96 25 (σ 104 16)) τ H locs → lv_has ls 2 [(1, .int (nI m_)), (0, .ref (gAd G 96))] → W p l e (gRm 2 49) s m args below meth c H locs 0 0 (MQ below (gQi G (rFirst (fun m => !decide (mRings σ (σ 104 16) (nI m) D N = 0)) (240 - mi) mi) (mNowS σ) τ) args s 0 0 (gA G)) (F0 m 12 ls []) := by
    intro n
    induction n with
    | zero =>
      intro m_ H locs ls hm hq hW hl
      refine lv_iload_n hx hb dX10_firstRung_12 rfl (lv_at hl 0 rfl) ?_
      refine lv_sipush (v := 240) hx hb dX10_firstRung_13 (by decide) ?_
      refine lv_icmp_ge (tgt := 35) hx hb dX10_firstRung_16 (by decide) (fun _ => ?_) (fun zz => absurd (show nI 240 ≤ nI m_ from nI_le (by omega) (by omega)) zz)
      refine lv_bipush (v := (-9)) hx hb dX10_firstRung_35 (by decide) ?_
      exact g_iret C hr hlk hW dX10_firstRung_37 (by rw [← hq]; rfl) (rfl) (rfl)
    | succ n ih12 =>
      intro m_ H locs ls hm hq hW hl
      refine lv_iload_n hx hb dX10_firstRung_12 rfl (lv_at hl 0 rfl) ?_
      refine lv_sipush (v := 240) hx hb dX10_firstRung_13 (by decide) ?_
      refine lv_icmp_ge (tgt := 35) hx hb dX10_firstRung_16 (by decide) (fun zz => absurd zz (show ¬ nI 240 ≤ nI m_ from nI_ge (by omega) (by omega))) (fun _ => ?_)
      refine lv_aload_n hx hb dX10_firstRung_19 rfl (lv_at hl 1 rfl) ?_
      refine lv_iload_n hx hb dX10_firstRung_20 rfl (lv_at hl 0 rfl) ?_
      refine g_callvI (r := mRings σ (σ 104 16) (nI m_) D N) (σ' := gu σ 96 25 (σ 104 16)) (rest := []) (As := [.int (nI m_)]) C hW kv_X10_145 96 (by decide) (gL_10 rfl) rfl (m_ringsIn l G (gu σ 96 25 (σ 104 16)) τ (nI m_) D (hD) hD8 N (hN) hN5) ⟨Nat.le_of_ble_eq_true rfl, Nat.le_of_ble_eq_true rfl⟩ ⟨Nat.le_refl _, Nat.le_refl _⟩ rfl hl.1 rfl (Nat.le_of_ble_eq_true rfl) dX10_firstRung_21 (fun H locs hW => ?_)
      refine lv_if_eq (tgt := 29) hx hb dX10_firstRung_24 (by decide) (fun c_1 => ?_) (fun c_1 => ?_)
      · skip
        refine lv_iinc (v := nI (m_ + 1)) (lv' := [(1, .int (nI (m_ + 1))), (0, .ref (gAd G 96))]) hx hb dX10_firstRung_29 hl (k := 0) rfl (nI_1 _) (by decide) rfl (fun ls hl => ?_)
        refine lv_goto (tgt := 12) hx hb dX10_firstRung_32 (by decide) ?_
        exact ih12 (m_ + 1) _ _ _ (by omega) (by rw [← hq, rFirst, if_neg (by simp [c_1])]) hW (lv_sub hl [0, 1] rfl)
      · skip
        refine lv_iload_n hx hb dX10_firstRung_27 rfl (lv_at hl 0 rfl) ?_
        exact g_iret C hr hlk hW dX10_firstRung_28 (by rw [← hq, rFirst, if_pos (by simp [c_1])]) (rfl) (rfl)
  exact L12 (240 - mi) mi _ _ _ (by omega) rfl hW (lv_sub hl [0, 1] rfl)
set_option maxHeartbeats 4000000 in
set_option maxRecDepth 100000 in
theorem m_now (l : Launch) (G : gG) (σ : gSt) (τ : Nat → Int64) (a0 : Int32) (u : Nat) (hu : σ 96 20 = nI u) (D : Nat) (hD : σ 98 2 = nI D) (hD8 : D ≤ 8) (N : Nat) (hN : σ 98 1 = nI N) (hN5 : N ≤ 5) (mi : Nat) (hmi : σ 104 15 = nI mi) (hmi2 : mi ≤ 240) : gI l yX10_now cX10_now 4 (some .int) 3 70 G [.ref (gAd G 96), .int a0] σ τ (if mIn a0 0 5 = true then (if 2 ≤ a0 then (if a0 = 2 then rSum (σ 104) N else if a0 = 3 then rWorst (σ 104) N N else if a0 = 4 then rFirst (fun m => !decide (mRings σ (σ 104 16) (nI m) D N = 0)) (240 - mi) mi else nI u) else σ 104 (15 + a0.toNatClampNeg)) else -1) (if a0 = 4 then mNowS σ else σ) τ := by
  refine gMet_of (by decide) (Nat.le_of_ble_eq_true rfl) ?_
  intro p e s m args below meth c C hr hlk ls hl hW
  have hx := C.1
  have hb := C.2.1
  have hl : lv_has ls 4 [(0, .ref (gAd G 96)), (1, .int a0)] := hl
  refine lv_aload_n hx hb dX10_now_0 rfl (lv_at hl 0 rfl) ?_
  refine lv_iconst (v := 0) hx hb dX10_now_1 (by decide) ?_
  refine gp_X10_62 C hW (by decide) rfl dX10_now_2 (fun H locs hW => ?_)
  refine lv_iload_n hx hb dX10_now_5 rfl (lv_at hl 1 rfl) ?_
  refine lv_iconst (v := 0) hx hb dX10_now_6 (by decide) ?_
  refine lv_iconst (v := 5) hx hb dX10_now_7 (by decide) ?_
  refine g_callsI (r := bI (mIn a0 0 5)) (σ' := σ) (rest := []) (As := [.int a0, .int 0, .int 5]) C hW ks_X10_66 (m_in l G σ τ a0 0 5) ⟨Nat.le_of_ble_eq_true rfl, Nat.le_of_ble_eq_true rfl⟩ ⟨Nat.le_refl _, Nat.le_refl _⟩ rfl hl.1 rfl (Nat.le_of_ble_eq_true rfl) dX10_now_8 (fun H locs hW => ?_)
  refine lv_if_ne (tgt := 16) hx hb dX10_now_11 (by decide) (fun c_1 => ?_) (fun c_1 => ?_)
  · skip
    replace c_1 : (mIn a0 0 5) = true := bI_ne0.mp c_1
    refine lv_iconst (v := 0) hx hb dX10_now_16 (by decide) ?_
    refine lv_istore_n (lv' := [(2, .int 0), (0, .ref (gAd G 96)), (1, .int a0)]) hx hb dX10_now_17 rfl hl (by decide) rfl (fun ls hl => ?_)
    refine lv_iconst (v := 0) hx hb dX10_now_18 (by decide) ?_
    refine lv_istore_n (lv' := [(3, .int 0), (2, .int 0), (0, .ref (gAd G 96)), (1, .int a0)]) hx hb dX10_now_19 rfl hl (by decide) rfl (fun ls hl => ?_)
    have L20 : ∀ (n : Nat) (k : Nat) (v : Int32) (H : Heap) (locs : List Loc) (ls : Array Slot), n + k = N → v = rSum (σ 104) k → gW G s σ τ H locs → lv_has ls 4 [(3, .int (nI k)), (2, .int v), (0, .ref (gAd G 96)), (1, .int a0)] → W p l e (gRm 3 70) s m args below meth c H locs 0 0 (MQ below (gQi G (if mIn a0 0 5 = true then (if 2 ≤ a0 then (if a0 = 2 then rSum (σ 104) N else if a0 = 3 then rWorst (σ 104) N N else if a0 = 4 then rFirst (fun m => !decide (mRings σ (σ 104 16) (nI m) D N = 0)) (240 - mi) mi else nI u) else σ 104 (15 + a0.toNatClampNeg)) else -1) (if a0 = 4 then mNowS σ else σ) τ) args s 0 0 (gA G)) (F0 m 20 ls []) := by
      intro n
      induction n with
      | zero =>
        intro k v H locs ls hm hv hW hl
        refine lv_iload_n hx hb dX10_now_20 rfl (lv_at hl 0 rfl) ?_
        refine lv_aload_n hx hb dX10_now_21 rfl (lv_at hl 2 rfl) ?_
        refine gf_X10_13 C hW (by decide) rfl dX10_now_22 ?_
        refine lv_iconst (v := 1) hx hb dX10_now_25 (by decide) ?_
        refine g_ald (v := nI N) 1 C hW (by decide) rfl rfl (by decide) (by decide) hN dX10_now_26 ?_
        refine lv_icmp_ge (tgt := 48) hx hb dX10_now_27 (by decide) (fun _ => ?_) (fun zz => absurd (show nI N ≤ nI k from nI_le (by omega) (by omega)) zz)
        refine lv_iload_n hx hb dX10_now_48 rfl (lv_at hl 3 rfl) ?_
        refine lv_iconst (v := 2) hx hb dX10_now_49 (by decide) ?_
        refine lv_icmp_ge (tgt := 65) hx hb dX10_now_50 (by decide) (fun c_2 => ?_) (fun c_2 => ?_)
        · skip
          refine lv_iload_n hx hb dX10_now_65 rfl (lv_at hl 3 rfl) ?_
          refine lv_iconst (v := 2) hx hb dX10_now_66 (by decide) ?_
          refine lv_icmp_ne (tgt := 74) hx hb dX10_now_67 (by decide) (fun c_3 => ?_) (fun c_3 => ?_)
          · skip
            refine lv_iload_n hx hb dX10_now_74 rfl (lv_at hl 3 rfl) ?_
            refine lv_iconst (v := 3) hx hb dX10_now_75 (by decide) ?_
            refine lv_icmp_ne (tgt := 86) hx hb dX10_now_76 (by decide) (fun c_4 => ?_) (fun c_4 => ?_)
            · skip
              refine lv_iload_n hx hb dX10_now_86 rfl (lv_at hl 3 rfl) ?_
              refine lv_iconst (v := 4) hx hb dX10_now_87 (by decide) ?_
              refine lv_icmp_ne (tgt := 98) hx hb dX10_now_88 (by decide) (fun c_5 => ?_) (fun c_5 => ?_)
              · skip
                refine lv_aload_n hx hb dX10_now_98 rfl (lv_at hl 2 rfl) ?_
                refine gf_X10_124 (v := nI u) C hW (by decide) rfl hu dX10_now_99 ?_
                exact g_iret C hr hlk hW dX10_now_102 (by rw [if_pos c_1]; have hk : k = N := (by omega); subst hk; simp [hv, c_2, c_3, c_4, c_5]) (by first | rw [if_pos (by assumption)] | (rw [if_neg (by assumption)]) | (rw [if_neg (by rintro rfl; simp_all)]) | (rw [if_neg (by rintro rfl; exact absurd c_5 (by decide))])) (rfl)
              · skip
                refine lv_aload_n hx hb dX10_now_91 rfl (lv_at hl 2 rfl) ?_
                refine g_callvI (r := rFirst (fun m => !decide (mRings σ (σ 104 16) (nI m) D N = 0)) (240 - mi) mi) (σ' := gu σ 96 25 (σ 104 16)) (rest := []) (As := []) C hW kv_X10_152 96 (by decide) (gL_10 rfl) rfl (m_firstRung l G σ τ D hD hD8 N hN hN5 mi hmi hmi2) ⟨Nat.le_of_ble_eq_true rfl, Nat.le_of_ble_eq_true rfl⟩ ⟨Nat.le_refl _, Nat.le_refl _⟩ rfl hl.1 rfl (Nat.le_of_ble_eq_true rfl) dX10_now_92 (fun H locs hW => ?_)
                refine lv_goto (tgt := 102) hx hb dX10_now_95 (by decide) ?_
                exact g_iret C hr hlk hW dX10_now_102 (by rw [if_pos c_1]; have hk : k = N := (by omega); subst hk; simp [hv, c_2, c_3, c_4, c_5]) (by first | rw [if_pos (by assumption)] | (rw [if_neg (by assumption)]) | (rw [if_neg (by rintro rfl; simp_all)]) | (rw [if_neg (by rintro rfl; exact absurd c_5 (by decide))])) (rfl)
            · skip
              refine lv_aload_n hx hb dX10_now_79 rfl (lv_at hl 2 rfl) ?_
              refine g_callvI (r := rWorst (σ 104) N N) (σ' := σ) (rest := []) (As := []) C hW kv_X10_148 96 (by decide) (gL_10 rfl) rfl (m_worst l G σ τ N hN hN5) ⟨Nat.le_of_ble_eq_true rfl, Nat.le_of_ble_eq_true rfl⟩ ⟨Nat.le_refl _, Nat.le_refl _⟩ rfl hl.1 rfl (Nat.le_of_ble_eq_true rfl) dX10_now_80 (fun H locs hW => ?_)
              refine lv_goto (tgt := 102) hx hb dX10_now_83 (by decide) ?_
              exact g_iret C hr hlk hW dX10_now_102 (by rw [if_pos c_1]; have hk : k = N := (by omega); subst hk; simp [hv, c_2, c_3, c_4]) (by first | rw [if_pos (by assumption)] | (rw [if_neg (by assumption)]) | (rw [if_neg (by rintro rfl; simp_all)]) | (rw [if_neg (by rintro rfl; exact absurd c_4 (by decide))])) (rfl)
          · skip
            refine lv_iload_n hx hb dX10_now_70 rfl (lv_at hl 1 rfl) ?_
            refine lv_goto (tgt := 102) hx hb dX10_now_71 (by decide) ?_
            exact g_iret C hr hlk hW dX10_now_102 (by rw [if_pos c_1]; have hk : k = N := (by omega); subst hk; simp [hv, c_2, c_3]) (by first | rw [if_pos (by assumption)] | (rw [if_neg (by assumption)]) | (rw [if_neg (by rintro rfl; simp_all)]) | (rw [if_neg (by rintro rfl; exact absurd c_3 (by decide))])) (rfl)
        · skip
          have hp := in5_nat c_1 c_2
          refine lv_aload_n hx hb dX10_now_53 rfl (lv_at hl 2 rfl) ?_
          refine gf_X10_31 C hW (by decide) rfl dX10_now_54 ?_
          refine lv_bipush (v := 15) hx hb dX10_now_57 (by decide) ?_
          refine lv_iload_n hx hb dX10_now_59 rfl (lv_at hl 3 rfl) ?_
          refine lv_iadd hx hb dX10_now_60 ?_
          refine g_ald (v := σ 104 (15 + a0.toNatClampNeg)) (15 + a0.toNatClampNeg) C hW (by decide) rfl (gadd (rfl : 15 = nI 15) hp.1) (show (15 + a0.toNatClampNeg) < 25 by omega) (by decide) rfl dX10_now_61 ?_
          refine lv_goto (tgt := 102) hx hb dX10_now_62 (by decide) ?_
          exact g_iret C hr hlk hW dX10_now_102 (by rw [if_pos c_1, if_neg c_2]) (by rw [if_neg (by rintro rfl; exact c_2 (by decide))]) (rfl)
      | succ n ih20 =>
        intro k v H locs ls hm hv hW hl
        refine lv_iload_n hx hb dX10_now_20 rfl (lv_at hl 0 rfl) ?_
        refine lv_aload_n hx hb dX10_now_21 rfl (lv_at hl 2 rfl) ?_
        refine gf_X10_13 C hW (by decide) rfl dX10_now_22 ?_
        refine lv_iconst (v := 1) hx hb dX10_now_25 (by decide) ?_
        refine g_ald (v := nI N) 1 C hW (by decide) rfl rfl (by decide) (by decide) hN dX10_now_26 ?_
        refine lv_icmp_ge (tgt := 48) hx hb dX10_now_27 (by decide) (fun zz => absurd zz (show ¬ nI N ≤ nI k from nI_ge (by omega) (by omega))) (fun _ => ?_)
        refine lv_iload_n hx hb dX10_now_30 rfl (lv_at hl 1 rfl) ?_
        refine lv_aload_n hx hb dX10_now_31 rfl (lv_at hl 2 rfl) ?_
        refine gf_X10_31 C hW (by decide) rfl dX10_now_32 ?_
        refine lv_bipush (v := 10) hx hb dX10_now_35 (by decide) ?_
        refine lv_iload_n hx hb dX10_now_37 rfl (lv_at hl 0 rfl) ?_
        refine lv_iadd hx hb dX10_now_38 ?_
        refine g_ald (v := σ 104 (10 + k)) (10 + k) C hW (by decide) rfl (gadd (rfl : 10 = nI 10) (rfl : nI k = nI k)) (show (10 + k) < 25 by omega) (by decide) rfl dX10_now_39 ?_
        refine lv_iadd hx hb dX10_now_40 ?_
        refine lv_istore_n (lv' := [(2, .int (v + (σ 104 (10 + k)))), (3, .int (nI k)), (0, .ref (gAd G 96)), (1, .int a0)]) hx hb dX10_now_41 rfl hl (by decide) rfl (fun ls hl => ?_)
        refine lv_iinc (v := nI (k + 1)) (lv' := [(3, .int (nI (k + 1))), (2, .int (v + (σ 104 (10 + k)))), (0, .ref (gAd G 96)), (1, .int a0)]) hx hb dX10_now_42 hl (k := 1) rfl (nI_1 _) (by decide) rfl (fun ls hl => ?_)
        refine lv_goto (tgt := 20) hx hb dX10_now_45 (by decide) ?_
        exact ih20 (k + 1) (v + (σ 104 (10 + k))) _ _ _ (by omega) (by rw [hv, rSum]) hW (lv_sub hl [0, 1, 2, 3] rfl)
    exact L20 N 0 0 _ _ _ (by omega) (by first | rfl | simp [bI, c_1]) hW (lv_sub hl [0, 1, 2, 3] rfl)
  · skip
    replace c_1 : (mIn a0 0 5) = false := bI_eq0.mp c_1
    refine lv_iconst (v := (-1)) hx hb dX10_now_14 (by decide) ?_
    exact g_iret C hr hlk hW dX10_now_15 (by simp [c_1]) (by rw [if_neg (by rintro rfl; exact absurd c_1 (by decide))]) (rfl)
set_option maxHeartbeats 4000000 in
set_option maxRecDepth 100000 in
theorem m_notes (l : Launch) (G : gG) (σ : gSt) (τ : Nat → Int64) (u : Nat) (hu : σ 96 20 = nI u) (hu2 : u ≤ 10) : gV l yX10_notes cX10_notes 2 (none : Option Jvm.ClassFile.FieldType) 0 0 G [.ref (gAd G 96)] σ τ (mNotes σ u) τ := by
  refine gMet_of (by decide) (Nat.le_of_ble_eq_true rfl) ?_
  intro p e s m args below meth c C hr hlk ls hl hW
  have hx := C.1
  have hb := C.2.1
  have hl : lv_has ls 2 [(0, .ref (gAd G 96))] := hl
  refine lv_aload_n hx hb dX10_notes_0 rfl (lv_at hl 0 rfl) ?_
  refine gf_X10_124 (v := nI u) C hW (by decide) rfl hu dX10_notes_1 ?_
  refine lv_bipush (v := 10) hx hb dX10_notes_4 (by decide) ?_
  refine lv_icmp_ne (tgt := 45) hx hb dX10_notes_6 (by decide) (fun c_1 => ?_) (fun c_1 => ?_)
  · skip
    replace c_1 : ¬ u = 10 := mt (nI_eq (a := u) (b := 10) (by omega) (by omega)).mpr c_1
    refine lv_iconst (v := 0) hx hb dX10_notes_45 (by decide) ?_
    refine lv_istore_n (lv' := [(1, .int 0), (0, .ref (gAd G 96))]) hx hb dX10_notes_46 rfl hl (by decide) rfl (fun ls hl => ?_)
    have L47 : ∀ (n : Nat) (k : Nat) (H : Heap) (locs : List Loc) (ls : Array Slot), n + k = 25 → gW G s (gcp 107 104 (25 * u) 0 σ k) τ H locs → lv_has ls 2 [(1, .int (nI k)), (0, .ref (gAd G 96))] → W p l e (gRm 0 0) s m args below meth c H locs 0 0 (MQ below (gQv G (mNotes σ u) τ) args s 0 0 (gA G)) (F0 m 47 ls []) := by
      intro n
      induction n with
      | zero =>
        intro k H locs ls hm hW hl
        refine lv_iload_n hx hb dX10_notes_47 rfl (lv_at hl 0 rfl) ?_
        refine lv_bipush (v := 25) hx hb dX10_notes_48 (by decide) ?_
        refine lv_icmp_ge (tgt := 79) hx hb dX10_notes_50 (by decide) (fun _ => ?_) (fun zz => absurd (show nI 25 ≤ nI k from nI_le (by omega) (by omega)) zz)
        refine lv_aload_n hx hb dX10_notes_79 rfl (lv_at hl 1 rfl) ?_
        refine lv_dup hx hb dX10_notes_80 rfl ?_
        refine gf_X10_124 (v := nI u) C hW (by decide) rfl (by rw [gcp_ne (by decide)]; exact hu) dX10_notes_81 ?_
        refine lv_iconst (v := 1) hx hb dX10_notes_84 (by decide) ?_
        refine lv_iadd hx hb dX10_notes_85 ?_
        refine gp_X10_124 C hW (by decide) rfl dX10_notes_86 (fun H locs hW => ?_)
        exact g_vret C hr hlk hW dX10_notes_89 (by have hk : k = 25 := (by omega); subst hk; simp [mNotes, mNotes1, c_1, nI_1]) (rfl)
      | succ n ih47 =>
        intro k H locs ls hm hW hl
        refine lv_iload_n hx hb dX10_notes_47 rfl (lv_at hl 0 rfl) ?_
        refine lv_bipush (v := 25) hx hb dX10_notes_48 (by decide) ?_
        refine lv_icmp_ge (tgt := 79) hx hb dX10_notes_50 (by decide) (fun zz => absurd zz (show ¬ nI 25 ≤ nI k from nI_ge (by omega) (by omega))) (fun _ => ?_)
        refine lv_aload_n hx hb dX10_notes_53 rfl (lv_at hl 1 rfl) ?_
        refine gf_X10_41 C hW (by decide) rfl dX10_notes_54 ?_
        refine lv_bipush (v := 25) hx hb dX10_notes_57 (by decide) ?_
        refine lv_aload_n hx hb dX10_notes_59 rfl (lv_at hl 1 rfl) ?_
        refine gf_X10_124 (v := nI u) C hW (by decide) rfl (by rw [gcp_ne (by decide)]; exact hu) dX10_notes_60 ?_
        refine lv_imul hx hb dX10_notes_63 ?_
        refine lv_iload_n hx hb dX10_notes_64 rfl (lv_at hl 0 rfl) ?_
        refine lv_iadd hx hb dX10_notes_65 ?_
        refine lv_aload_n hx hb dX10_notes_66 rfl (lv_at hl 1 rfl) ?_
        refine gf_X10_31 C hW (by decide) rfl dX10_notes_67 ?_
        refine lv_iload_n hx hb dX10_notes_70 rfl (lv_at hl 0 rfl) ?_
        refine g_ald (v := (gcp 107 104 (25 * u) 0 σ k) 104 k) k C hW (by decide) rfl rfl (show k < 25 by omega) (by decide) rfl dX10_notes_71 ?_
        refine g_ast ((25 * u) + k) C hW (by decide) rfl (gadd (gmul (rfl : 25 = nI 25) (rfl : nI u = nI u)) (rfl : nI k = nI k)) (show ((25 * u) + k) < 250 by omega) (by decide) dX10_notes_72 (fun H locs hW => ?_)
        refine lv_iinc (v := nI (k + 1)) (lv' := [(1, .int (nI (k + 1))), (0, .ref (gAd G 96))]) hx hb dX10_notes_73 hl (k := 0) rfl (nI_1 _) (by decide) rfl (fun ls hl => ?_)
        refine lv_goto (tgt := 47) hx hb dX10_notes_76 (by decide) ?_
        exact ih47 (k + 1) _ _ _ (by omega)  (by simpa [gcp, Nat.zero_add] using hW) (lv_sub hl [0, 1] rfl)
    exact L47 25 0 _ _ _ (by omega)  hW (lv_sub hl [0, 1] rfl)
  · skip
    replace c_1 : u = 10 := (nI_eq (a := u) (b := 10) (by omega) (by omega)).mp c_1
    refine lv_iconst (v := 0) hx hb dX10_notes_9 (by decide) ?_
    refine lv_istore_n (lv' := [(1, .int 0), (0, .ref (gAd G 96))]) hx hb dX10_notes_10 rfl hl (by decide) rfl (fun ls hl => ?_)
    have L11 : ∀ (n : Nat) (k : Nat) (H : Heap) (locs : List Loc) (ls : Array Slot), n + k = 225 → gW G s (gcp 107 107 0 25 σ k) τ H locs → lv_has ls 2 [(1, .int (nI k)), (0, .ref (gAd G 96))] → W p l e (gRm 0 0) s m args below meth c H locs 0 0 (MQ below (gQv G (mNotes σ u) τ) args s 0 0 (gA G)) (F0 m 11 ls []) := by
      intro n
      induction n with
      | zero =>
        intro k H locs ls hm hW hl
        refine lv_iload_n hx hb dX10_notes_11 rfl (lv_at hl 0 rfl) ?_
        refine lv_sipush (v := 225) hx hb dX10_notes_12 (by decide) ?_
        refine lv_icmp_ge (tgt := 39) hx hb dX10_notes_15 (by decide) (fun _ => ?_) (fun zz => absurd (show nI 225 ≤ nI k from nI_le (by omega) (by omega)) zz)
        have hk : k = 225 := by omega
        subst hk
        refine lv_aload_n hx hb dX10_notes_39 rfl (lv_at hl 1 rfl) ?_
        refine lv_bipush (v := 9) hx hb dX10_notes_40 (by decide) ?_
        refine gp_X10_124 C hW (by decide) rfl dX10_notes_42 (fun H locs hW => ?_)
        refine lv_iconst (v := 0) hx hb dX10_notes_45 (by decide) ?_
        refine lv_istore_n (lv' := [(1, .int 0), (0, .ref (gAd G 96))]) hx hb dX10_notes_46 rfl hl (by decide) rfl (fun ls hl => ?_)
        have L47 : ∀ (n : Nat) (k : Nat) (H : Heap) (locs : List Loc) (ls : Array Slot), n + k = 25 → gW G s (gcp 107 104 (25 * 9) 0 (gu (gcp 107 107 0 25 σ 225) 96 20 9) k) τ H locs → lv_has ls 2 [(1, .int (nI k)), (0, .ref (gAd G 96))] → W p l e (gRm 0 0) s m args below meth c H locs 0 0 (MQ below (gQv G (mNotes σ u) τ) args s 0 0 (gA G)) (F0 m 47 ls []) := by
          intro n
          induction n with
          | zero =>
            intro k H locs ls hm hW hl
            refine lv_iload_n hx hb dX10_notes_47 rfl (lv_at hl 0 rfl) ?_
            refine lv_bipush (v := 25) hx hb dX10_notes_48 (by decide) ?_
            refine lv_icmp_ge (tgt := 79) hx hb dX10_notes_50 (by decide) (fun _ => ?_) (fun zz => absurd (show nI 25 ≤ nI k from nI_le (by omega) (by omega)) zz)
            refine lv_aload_n hx hb dX10_notes_79 rfl (lv_at hl 1 rfl) ?_
            refine lv_dup hx hb dX10_notes_80 rfl ?_
            refine gf_X10_124 (v := nI 9) C hW (by decide) rfl (by rw [gcp_ne (by decide)]; rfl) dX10_notes_81 ?_
            refine lv_iconst (v := 1) hx hb dX10_notes_84 (by decide) ?_
            refine lv_iadd hx hb dX10_notes_85 ?_
            refine gp_X10_124 C hW (by decide) rfl dX10_notes_86 (fun H locs hW => ?_)
            exact g_vret C hr hlk hW dX10_notes_89 (by have hk : k = 25 := (by omega); subst hk; simp [mNotes, mNotes1, c_1, nI_1]) (rfl)
          | succ n ih47 =>
            intro k H locs ls hm hW hl
            refine lv_iload_n hx hb dX10_notes_47 rfl (lv_at hl 0 rfl) ?_
            refine lv_bipush (v := 25) hx hb dX10_notes_48 (by decide) ?_
            refine lv_icmp_ge (tgt := 79) hx hb dX10_notes_50 (by decide) (fun zz => absurd zz (show ¬ nI 25 ≤ nI k from nI_ge (by omega) (by omega))) (fun _ => ?_)
            refine lv_aload_n hx hb dX10_notes_53 rfl (lv_at hl 1 rfl) ?_
            refine gf_X10_41 C hW (by decide) rfl dX10_notes_54 ?_
            refine lv_bipush (v := 25) hx hb dX10_notes_57 (by decide) ?_
            refine lv_aload_n hx hb dX10_notes_59 rfl (lv_at hl 1 rfl) ?_
            refine gf_X10_124 (v := nI 9) C hW (by decide) rfl (by rw [gcp_ne (by decide)]; rfl) dX10_notes_60 ?_
            refine lv_imul hx hb dX10_notes_63 ?_
            refine lv_iload_n hx hb dX10_notes_64 rfl (lv_at hl 0 rfl) ?_
            refine lv_iadd hx hb dX10_notes_65 ?_
            refine lv_aload_n hx hb dX10_notes_66 rfl (lv_at hl 1 rfl) ?_
            refine gf_X10_31 C hW (by decide) rfl dX10_notes_67 ?_
            refine lv_iload_n hx hb dX10_notes_70 rfl (lv_at hl 0 rfl) ?_
            refine g_ald (v := (gcp 107 104 (25 * 9) 0 (gu (gcp 107 107 0 25 σ 225) 96 20 9) k) 104 k) k C hW (by decide) rfl rfl (show k < 25 by omega) (by decide) rfl dX10_notes_71 ?_
            refine g_ast ((25 * 9) + k) C hW (by decide) rfl (gadd (gmul (rfl : 25 = nI 25) (rfl : nI 9 = nI 9)) (rfl : nI k = nI k)) (show ((25 * 9) + k) < 250 by omega) (by decide) dX10_notes_72 (fun H locs hW => ?_)
            refine lv_iinc (v := nI (k + 1)) (lv' := [(1, .int (nI (k + 1))), (0, .ref (gAd G 96))]) hx hb dX10_notes_73 hl (k := 0) rfl (nI_1 _) (by decide) rfl (fun ls hl => ?_)
            refine lv_goto (tgt := 47) hx hb dX10_notes_76 (by decide) ?_
            exact ih47 (k + 1) _ _ _ (by omega)  (by simpa [gcp, Nat.zero_add] using hW) (lv_sub hl [0, 1] rfl)
        exact L47 25 0 _ _ _ (by omega)  hW (lv_sub hl [0, 1] rfl)
      | succ n ih11 =>
        intro k H locs ls hm hW hl
        refine lv_iload_n hx hb dX10_notes_11 rfl (lv_at hl 0 rfl) ?_
        refine lv_sipush (v := 225) hx hb dX10_notes_12 (by decide) ?_
        refine lv_icmp_ge (tgt := 39) hx hb dX10_notes_15 (by decide) (fun zz => absurd zz (show ¬ nI 225 ≤ nI k from nI_ge (by omega) (by omega))) (fun _ => ?_)
        refine lv_aload_n hx hb dX10_notes_18 rfl (lv_at hl 1 rfl) ?_
        refine gf_X10_41 C hW (by decide) rfl dX10_notes_19 ?_
        refine lv_iload_n hx hb dX10_notes_22 rfl (lv_at hl 0 rfl) ?_
        refine lv_aload_n hx hb dX10_notes_23 rfl (lv_at hl 1 rfl) ?_
        refine gf_X10_41 C hW (by decide) rfl dX10_notes_24 ?_
        refine lv_iload_n hx hb dX10_notes_27 rfl (lv_at hl 0 rfl) ?_
        refine lv_bipush (v := 25) hx hb dX10_notes_28 (by decide) ?_
        refine lv_iadd hx hb dX10_notes_30 ?_
        refine g_ald (v := (gcp 107 107 0 25 σ k) 107 (k + 25)) (k + 25) C hW (by decide) rfl (gadd (rfl : nI k = nI k) (rfl : 25 = nI 25)) (show (k + 25) < 250 by omega) (by decide) rfl dX10_notes_31 ?_
        refine g_ast k C hW (by decide) rfl rfl (show k < 250 by omega) (by decide) dX10_notes_32 (fun H locs hW => ?_)
        refine lv_iinc (v := nI (k + 1)) (lv' := [(1, .int (nI (k + 1))), (0, .ref (gAd G 96))]) hx hb dX10_notes_33 hl (k := 0) rfl (nI_1 _) (by decide) rfl (fun ls hl => ?_)
        refine lv_goto (tgt := 11) hx hb dX10_notes_36 (by decide) ?_
        exact ih11 (k + 1) _ _ _ (by omega)  (by simpa [gcp, Nat.add_comm, Nat.zero_add] using hW) (lv_sub hl [0, 1] rfl)
    exact L11 225 0 _ _ _ (by omega)  hW (lv_sub hl [0, 1] rfl)
set_option maxHeartbeats 4000000 in
set_option maxRecDepth 100000 in
theorem m_walk (l : Launch) (G : gG) (σ : gSt) (τ : Nat → Int64) (a0 a1 : Int32) : gI l yX10_walk cX10_walk 3 (some .int) 0 0 G [.ref (gAd G 96), .int a0, .int a1] σ τ (mWalk (σ 98) a0 a1) σ τ := by
  refine gMet_of (by decide) (Nat.le_of_ble_eq_true rfl) ?_
  intro p e s m args below meth c C hr hlk ls hl hW
  have hx := C.1
  have hb := C.2.1
  have hl : lv_has ls 3 [(0, .ref (gAd G 96)), (1, .int a0), (2, .int a1)] := hl
  refine lv_aload_n hx hb dX10_walk_0 rfl (lv_at hl 0 rfl) ?_
  refine gf_X10_13 C hW (by decide) rfl dX10_walk_1 ?_
  refine lv_iconst (v := 3) hx hb dX10_walk_4 (by decide) ?_
  refine g_ald (v := σ 98 3) 3 C hW (by decide) rfl rfl (by decide) (by decide) rfl dX10_walk_5 ?_
  refine lv_iload_n hx hb dX10_walk_6 rfl (lv_at hl 1 rfl) ?_
  refine lv_iload_n hx hb dX10_walk_7 rfl (lv_at hl 2 rfl) ?_
  refine lv_icmp_ge (tgt := 17) hx hb dX10_walk_8 (by decide) (fun c_1 => ?_) (fun c_1 => ?_)
  · skip
    refine lv_iload_n hx hb dX10_walk_17 rfl (lv_at hl 1 rfl) ?_
    refine lv_iload_n hx hb dX10_walk_18 rfl (lv_at hl 2 rfl) ?_
    refine lv_isub hx hb dX10_walk_19 ?_
    refine lv_imul hx hb dX10_walk_20 ?_
    exact g_iret C hr hlk hW dX10_walk_21 (by rw [mWalk, if_pos c_1]) (rfl) (rfl)
  · skip
    refine lv_iload_n hx hb dX10_walk_11 rfl (lv_at hl 2 rfl) ?_
    refine lv_iload_n hx hb dX10_walk_12 rfl (lv_at hl 1 rfl) ?_
    refine lv_isub hx hb dX10_walk_13 ?_
    refine lv_goto (tgt := 20) hx hb dX10_walk_14 (by decide) ?_
    refine lv_imul hx hb dX10_walk_20 ?_
    exact g_iret C hr hlk hW dX10_walk_21 (by rw [mWalk, if_neg c_1]) (rfl) (rfl)
set_option maxHeartbeats 4000000 in
set_option maxRecDepth 100000 in
theorem m_goes (l : Launch) (G : gG) (σ : gSt) (τ : Nat → Int64) (a0 a1 : Int32) (N : Nat) (hN : σ 98 1 = nI N) (hN5 : N ≤ 5) (u : Nat) (hu : σ 96 20 = nI u) (hu2 : u ≤ 10) : gI l yX10_goes cX10_goes 3 (some .int) 2 43 G [.ref (gAd G 96), .int a0, .int a1] σ τ (if (mIn a0 0 (σ 98 1 - 1) = true ∧ mIn a1 0 (σ 98 0 - 1) = true) then (if (0 < σ 104 (5 + a0.toNatClampNeg) ∨ σ 104 a0.toNatClampNeg = a1) then -2 else mWalk (σ 98) (σ 104 a0.toNatClampNeg) a1) else -1) (if (mIn a0 0 (σ 98 1 - 1) = true ∧ mIn a1 0 (σ 98 0 - 1) = true) then (if (0 < σ 104 (5 + a0.toNatClampNeg) ∨ σ 104 a0.toNatClampNeg = a1) then σ else gu (gu (mNotes σ u) 104 (5 + a0.toNatClampNeg) (mWalk (mNotes σ u 98) (mNotes σ u 104 a0.toNatClampNeg) a1)) 104 a0.toNatClampNeg a1) else σ) τ := by
  refine gMet_of (by decide) (Nat.le_of_ble_eq_true rfl) ?_
  intro p e s m args below meth c C hr hlk ls hl hW
  have hx := C.1
  have hb := C.2.1
  have hl : lv_has ls 3 [(0, .ref (gAd G 96)), (1, .int a0), (2, .int a1)] := hl
  refine lv_aload_n hx hb dX10_goes_0 rfl (lv_at hl 0 rfl) ?_
  refine lv_iconst (v := 0) hx hb dX10_goes_1 (by decide) ?_
  refine gp_X10_62 C hW (by decide) rfl dX10_goes_2 (fun H locs hW => ?_)
  refine lv_aload_n hx hb dX10_goes_5 rfl (lv_at hl 0 rfl) ?_
  refine lv_iload_n hx hb dX10_goes_6 rfl (lv_at hl 1 rfl) ?_
  refine g_callvI (r := bI (mIn a0 0 (σ 98 1 - 1))) (σ' := σ) (rest := []) (As := [.int a0]) C hW kv_X10_136 96 (by decide) (gL_10 rfl) rfl (m_isPerson l G σ τ a0) ⟨Nat.le_of_ble_eq_true rfl, Nat.le_of_ble_eq_true rfl⟩ ⟨Nat.le_refl _, Nat.le_refl _⟩ rfl hl.1 rfl (Nat.le_of_ble_eq_true rfl) dX10_goes_7 (fun H locs hW => ?_)
  refine lv_if_eq (tgt := 21) hx hb dX10_goes_10 (by decide) (fun c_1 => ?_) (fun c_1 => ?_)
  · skip
    replace c_1 : (mIn a0 0 (σ 98 1 - 1)) = false := bI_eq0.mp c_1
    refine lv_iconst (v := (-1)) hx hb dX10_goes_21 (by decide) ?_
    exact g_iret C hr hlk hW dX10_goes_22 (by simp [c_1]) (by simp [c_1]) (rfl)
  · skip
    replace c_1 : (mIn a0 0 (σ 98 1 - 1)) = true := bI_ne0.mp c_1
    refine lv_aload_n hx hb dX10_goes_13 rfl (lv_at hl 0 rfl) ?_
    refine lv_iload_n hx hb dX10_goes_14 rfl (lv_at hl 2 rfl) ?_
    refine g_callvI (r := bI (mIn a1 0 (σ 98 0 - 1))) (σ' := σ) (rest := []) (As := [.int a1]) C hW kv_X10_155 96 (by decide) (gL_10 rfl) rfl (m_isPlace l G σ τ a1) ⟨Nat.le_of_ble_eq_true rfl, Nat.le_of_ble_eq_true rfl⟩ ⟨Nat.le_refl _, Nat.le_refl _⟩ rfl hl.1 rfl (Nat.le_of_ble_eq_true rfl) dX10_goes_15 (fun H locs hW => ?_)
    refine lv_if_ne (tgt := 23) hx hb dX10_goes_18 (by decide) (fun c_2 => ?_) (fun c_2 => ?_)
    · skip
      replace c_2 : (mIn a1 0 (σ 98 0 - 1)) = true := bI_ne0.mp c_2
      have hp0 := c_1
      rw [hN] at hp0
      have hp := mIn_nat (N := N) hp0 (by omega)
      refine lv_aload_n hx hb dX10_goes_23 rfl (lv_at hl 0 rfl) ?_
      refine gf_X10_31 C hW (by decide) rfl dX10_goes_24 ?_
      refine lv_iconst (v := 5) hx hb dX10_goes_27 (by decide) ?_
      refine lv_iload_n hx hb dX10_goes_28 rfl (lv_at hl 1 rfl) ?_
      refine lv_iadd hx hb dX10_goes_29 ?_
      refine g_ald (v := σ 104 (5 + a0.toNatClampNeg)) (5 + a0.toNatClampNeg) C hW (by decide) rfl (gadd (rfl : 5 = nI 5) hp.1) (show (5 + a0.toNatClampNeg) < 25 by omega) (by decide) rfl dX10_goes_30 ?_
      refine lv_if_gt (tgt := 46) hx hb dX10_goes_31 (by decide) (fun c_3 => ?_) (fun c_3 => ?_)
      · skip
        refine lv_bipush (v := (-2)) hx hb dX10_goes_46 (by decide) ?_
        exact g_iret C hr hlk hW dX10_goes_48 (by simp [c_1, c_2, c_3]) (by simp [c_1, c_2, c_3]) (rfl)
      · skip
        refine lv_aload_n hx hb dX10_goes_34 rfl (lv_at hl 0 rfl) ?_
        refine gf_X10_31 C hW (by decide) rfl dX10_goes_35 ?_
        refine lv_iconst (v := 0) hx hb dX10_goes_38 (by decide) ?_
        refine lv_iload_n hx hb dX10_goes_39 rfl (lv_at hl 1 rfl) ?_
        refine lv_iadd hx hb dX10_goes_40 ?_
        refine g_ald (v := σ 104 a0.toNatClampNeg) a0.toNatClampNeg C hW (by decide) rfl (gz hp.1) (show a0.toNatClampNeg < 25 by omega) (by decide) rfl dX10_goes_41 ?_
        refine lv_iload_n hx hb dX10_goes_42 rfl (lv_at hl 2 rfl) ?_
        refine lv_icmp_ne (tgt := 49) hx hb dX10_goes_43 (by decide) (fun c_4 => ?_) (fun c_4 => ?_)
        · skip
          refine lv_aload_n hx hb dX10_goes_49 rfl (lv_at hl 0 rfl) ?_
          refine g_callvV (σ' := mNotes σ u) (rest := []) (As := []) C hW kv_X10_158 96 (by decide) (gL_10 rfl) rfl (m_notes l G σ τ u hu hu2) ⟨Nat.le_of_ble_eq_true rfl, Nat.le_of_ble_eq_true rfl⟩ ⟨Nat.le_refl _, Nat.le_refl _⟩ rfl hl.1 rfl (Nat.le_of_ble_eq_true rfl) dX10_goes_50 (fun H locs hW => ?_)
          refine lv_aload_n hx hb dX10_goes_53 rfl (lv_at hl 0 rfl) ?_
          refine gf_X10_31 C hW (by decide) rfl dX10_goes_54 ?_
          refine lv_iconst (v := 5) hx hb dX10_goes_57 (by decide) ?_
          refine lv_iload_n hx hb dX10_goes_58 rfl (lv_at hl 1 rfl) ?_
          refine lv_iadd hx hb dX10_goes_59 ?_
          refine lv_aload_n hx hb dX10_goes_60 rfl (lv_at hl 0 rfl) ?_
          refine lv_aload_n hx hb dX10_goes_61 rfl (lv_at hl 0 rfl) ?_
          refine gf_X10_31 C hW (by decide) rfl dX10_goes_62 ?_
          refine lv_iconst (v := 0) hx hb dX10_goes_65 (by decide) ?_
          refine lv_iload_n hx hb dX10_goes_66 rfl (lv_at hl 1 rfl) ?_
          refine lv_iadd hx hb dX10_goes_67 ?_
          refine g_ald (v := (mNotes σ u) 104 a0.toNatClampNeg) a0.toNatClampNeg C hW (by decide) rfl (gz hp.1) (show a0.toNatClampNeg < 25 by omega) (by decide) rfl dX10_goes_68 ?_
          refine lv_iload_n hx hb dX10_goes_69 rfl (lv_at hl 2 rfl) ?_
          refine g_callvI (r := mWalk ((mNotes σ u) 98) ((mNotes σ u) 104 a0.toNatClampNeg) a1) (σ' := mNotes σ u) (rest := [.int (5 + a0), .ref (gAd G 104)]) (As := [.int ((mNotes σ u) 104 a0.toNatClampNeg), .int a1]) C hW kv_X10_161 96 (by decide) (gL_10 rfl) rfl (m_walk l G (mNotes σ u) τ ((mNotes σ u) 104 a0.toNatClampNeg) a1) ⟨Nat.le_of_ble_eq_true rfl, Nat.le_of_ble_eq_true rfl⟩ ⟨Nat.le_refl _, Nat.le_refl _⟩ rfl hl.1 rfl (Nat.le_of_ble_eq_true rfl) dX10_goes_70 (fun H locs hW => ?_)
          refine g_ast (5 + a0.toNatClampNeg) C hW (by decide) rfl (gadd (rfl : 5 = nI 5) hp.1) (show (5 + a0.toNatClampNeg) < 25 by omega) (by decide) dX10_goes_73 (fun H locs hW => ?_)
          refine lv_aload_n hx hb dX10_goes_74 rfl (lv_at hl 0 rfl) ?_
          refine gf_X10_31 C hW (by decide) rfl dX10_goes_75 ?_
          refine lv_iconst (v := 0) hx hb dX10_goes_78 (by decide) ?_
          refine lv_iload_n hx hb dX10_goes_79 rfl (lv_at hl 1 rfl) ?_
          refine lv_iadd hx hb dX10_goes_80 ?_
          refine lv_iload_n hx hb dX10_goes_81 rfl (lv_at hl 2 rfl) ?_
          refine g_ast a0.toNatClampNeg C hW (by decide) rfl (gz hp.1) (show a0.toNatClampNeg < 25 by omega) (by decide) dX10_goes_82 (fun H locs hW => ?_)
          refine lv_aload_n hx hb dX10_goes_83 rfl (lv_at hl 0 rfl) ?_
          refine gf_X10_31 C hW (by decide) rfl dX10_goes_84 ?_
          refine lv_iconst (v := 5) hx hb dX10_goes_87 (by decide) ?_
          refine lv_iload_n hx hb dX10_goes_88 rfl (lv_at hl 1 rfl) ?_
          refine lv_iadd hx hb dX10_goes_89 ?_
          refine g_ald (v := (gu (gu (mNotes σ u) 104 (5 + a0.toNatClampNeg) (mWalk ((mNotes σ u) 98) ((mNotes σ u) 104 a0.toNatClampNeg) a1)) 104 a0.toNatClampNeg a1) 104 (5 + a0.toNatClampNeg)) (5 + a0.toNatClampNeg) C hW (by decide) rfl (gadd (rfl : 5 = nI 5) hp.1) (show (5 + a0.toNatClampNeg) < 25 by omega) (by decide) rfl dX10_goes_90 ?_
          exact g_iret C hr hlk hW dX10_goes_91 (by rw [if_pos ⟨c_1, c_2⟩, if_neg (by rintro (q | q); exact c_3 q; exact c_4 q), gu_at, if_neg (by omega), gu_at, if_pos ⟨rfl, rfl⟩, mNotes_ne (by decide) (by decide), mNotes_ne (by decide) (by decide)]) (by rw [if_pos ⟨c_1, c_2⟩, if_neg (by rintro (q | q); exact c_3 q; exact c_4 q)]) (rfl)
        · skip
          refine lv_bipush (v := (-2)) hx hb dX10_goes_46 (by decide) ?_
          exact g_iret C hr hlk hW dX10_goes_48 (by simp [c_1, c_2, c_3, c_4]) (by simp [c_1, c_2, c_3, c_4]) (rfl)
    · skip
      replace c_2 : (mIn a1 0 (σ 98 0 - 1)) = false := bI_eq0.mp c_2
      refine lv_iconst (v := (-1)) hx hb dX10_goes_21 (by decide) ?_
      exact g_iret C hr hlk hW dX10_goes_22 (by simp [c_1, c_2]) (by simp [c_1, c_2]) (rfl)
set_option maxHeartbeats 4000000 in
set_option maxRecDepth 100000 in
theorem m_excuses (l : Launch) (G : gG) (σ : gSt) (τ : Nat → Int64) (a0 a1 : Int32) (D : Nat) (hD : σ 98 2 = nI D) (hD8 : D ≤ 8) (u : Nat) (hu : σ 96 20 = nI u) (hu2 : u ≤ 10) : gI l yX10_excuses cX10_excuses 3 (some .int) 2 43 G [.ref (gAd G 96), .int a0, .int a1] σ τ (if (mIn a0 0 (σ 98 2 - 1) = true ∧ mIn a1 0 1 = true) then (if ((σ 104 16 >>> (a0 &&& 31)) &&& 1 = a1) then -2 else mOnes (mNotes σ u 104 16 &&& (((1 : Int32) <<< (a0 &&& 31)) ^^^ -1) ||| a1 <<< (a0 &&& 31)) 8) else -1) (if (mIn a0 0 (σ 98 2 - 1) = true ∧ mIn a1 0 1 = true) then (if ((σ 104 16 >>> (a0 &&& 31)) &&& 1 = a1) then σ else gu (mNotes σ u) 104 16 (mNotes σ u 104 16 &&& (((1 : Int32) <<< (a0 &&& 31)) ^^^ -1) ||| a1 <<< (a0 &&& 31))) else σ) τ := by
  refine gMet_of (by decide) (Nat.le_of_ble_eq_true rfl) ?_
  intro p e s m args below meth c C hr hlk ls hl hW
  have hx := C.1
  have hb := C.2.1
  have hl : lv_has ls 3 [(0, .ref (gAd G 96)), (1, .int a0), (2, .int a1)] := hl
  refine lv_aload_n hx hb dX10_excuses_0 rfl (lv_at hl 0 rfl) ?_
  refine lv_iconst (v := 0) hx hb dX10_excuses_1 (by decide) ?_
  refine gp_X10_62 C hW (by decide) rfl dX10_excuses_2 (fun H locs hW => ?_)
  refine lv_aload_n hx hb dX10_excuses_5 rfl (lv_at hl 0 rfl) ?_
  refine lv_iload_n hx hb dX10_excuses_6 rfl (lv_at hl 1 rfl) ?_
  refine g_callvI (r := bI (mIn a0 0 (σ 98 2 - 1))) (σ' := σ) (rest := []) (As := [.int a0]) C hW kv_X10_142 96 (by decide) (gL_10 rfl) rfl (m_isDuty l G σ τ a0) ⟨Nat.le_of_ble_eq_true rfl, Nat.le_of_ble_eq_true rfl⟩ ⟨Nat.le_refl _, Nat.le_refl _⟩ rfl hl.1 rfl (Nat.le_of_ble_eq_true rfl) dX10_excuses_7 (fun H locs hW => ?_)
  refine lv_if_eq (tgt := 22) hx hb dX10_excuses_10 (by decide) (fun c_1 => ?_) (fun c_1 => ?_)
  · skip
    replace c_1 : (mIn a0 0 (σ 98 2 - 1)) = false := bI_eq0.mp c_1
    refine lv_iconst (v := (-1)) hx hb dX10_excuses_22 (by decide) ?_
    exact g_iret C hr hlk hW dX10_excuses_23 (by simp [c_1]) (by simp [c_1]) (rfl)
  · skip
    replace c_1 : (mIn a0 0 (σ 98 2 - 1)) = true := bI_ne0.mp c_1
    refine lv_iload_n hx hb dX10_excuses_13 rfl (lv_at hl 2 rfl) ?_
    refine lv_iconst (v := 0) hx hb dX10_excuses_14 (by decide) ?_
    refine lv_iconst (v := 1) hx hb dX10_excuses_15 (by decide) ?_
    refine g_callsI (r := bI (mIn a1 0 1)) (σ' := σ) (rest := []) (As := [.int a1, .int 0, .int 1]) C hW ks_X10_66 (m_in l G σ τ a1 0 1) ⟨Nat.le_of_ble_eq_true rfl, Nat.le_of_ble_eq_true rfl⟩ ⟨Nat.le_refl _, Nat.le_refl _⟩ rfl hl.1 rfl (Nat.le_of_ble_eq_true rfl) dX10_excuses_16 (fun H locs hW => ?_)
    refine lv_if_ne (tgt := 24) hx hb dX10_excuses_19 (by decide) (fun c_2 => ?_) (fun c_2 => ?_)
    · skip
      replace c_2 : (mIn a1 0 1) = true := bI_ne0.mp c_2
      refine lv_aload_n hx hb dX10_excuses_24 rfl (lv_at hl 0 rfl) ?_
      refine gf_X10_31 C hW (by decide) rfl dX10_excuses_25 ?_
      refine lv_bipush (v := 16) hx hb dX10_excuses_28 (by decide) ?_
      refine g_ald (v := σ 104 16) 16 C hW (by decide) rfl rfl (by decide) (by decide) rfl dX10_excuses_30 ?_
      refine lv_iload_n hx hb dX10_excuses_31 rfl (lv_at hl 1 rfl) ?_
      refine lv_ishr hx hb dX10_excuses_32 ?_
      refine lv_iconst (v := 1) hx hb dX10_excuses_33 (by decide) ?_
      refine lv_iand hx hb dX10_excuses_34 ?_
      refine lv_iload_n hx hb dX10_excuses_35 rfl (lv_at hl 2 rfl) ?_
      refine lv_icmp_ne (tgt := 42) hx hb dX10_excuses_36 (by decide) (fun c_3 => ?_) (fun c_3 => ?_)
      · skip
        refine lv_aload_n hx hb dX10_excuses_42 rfl (lv_at hl 0 rfl) ?_
        refine g_callvV (σ' := mNotes σ u) (rest := []) (As := []) C hW kv_X10_158 96 (by decide) (gL_10 rfl) rfl (m_notes l G σ τ u hu hu2) ⟨Nat.le_of_ble_eq_true rfl, Nat.le_of_ble_eq_true rfl⟩ ⟨Nat.le_refl _, Nat.le_refl _⟩ rfl hl.1 rfl (Nat.le_of_ble_eq_true rfl) dX10_excuses_43 (fun H locs hW => ?_)
        refine lv_aload_n hx hb dX10_excuses_46 rfl (lv_at hl 0 rfl) ?_
        refine gf_X10_31 C hW (by decide) rfl dX10_excuses_47 ?_
        refine lv_bipush (v := 16) hx hb dX10_excuses_50 (by decide) ?_
        refine lv_aload_n hx hb dX10_excuses_52 rfl (lv_at hl 0 rfl) ?_
        refine gf_X10_31 C hW (by decide) rfl dX10_excuses_53 ?_
        refine lv_bipush (v := 16) hx hb dX10_excuses_56 (by decide) ?_
        refine g_ald (v := (mNotes σ u) 104 16) 16 C hW (by decide) rfl rfl (by decide) (by decide) rfl dX10_excuses_58 ?_
        refine lv_iconst (v := 1) hx hb dX10_excuses_59 (by decide) ?_
        refine lv_iload_n hx hb dX10_excuses_60 rfl (lv_at hl 1 rfl) ?_
        refine lv_ishl hx hb dX10_excuses_61 ?_
        refine lv_iconst (v := (-1)) hx hb dX10_excuses_62 (by decide) ?_
        refine lv_ixor hx hb dX10_excuses_63 ?_
        refine lv_iand hx hb dX10_excuses_64 ?_
        refine lv_iload_n hx hb dX10_excuses_65 rfl (lv_at hl 2 rfl) ?_
        refine lv_iload_n hx hb dX10_excuses_66 rfl (lv_at hl 1 rfl) ?_
        refine lv_ishl hx hb dX10_excuses_67 ?_
        refine lv_ior hx hb dX10_excuses_68 ?_
        refine g_ast 16 C hW (by decide) rfl rfl (by decide) (by decide) dX10_excuses_69 (fun H locs hW => ?_)
        refine lv_aload_n hx hb dX10_excuses_70 rfl (lv_at hl 0 rfl) ?_
        refine gf_X10_31 C hW (by decide) rfl dX10_excuses_71 ?_
        refine lv_bipush (v := 16) hx hb dX10_excuses_74 (by decide) ?_
        refine g_ald (v := (((mNotes σ u) 104 16) &&& ((1 <<< (a0 &&& 31)) ^^^ (-1))) ||| (a1 <<< (a0 &&& 31))) 16 C hW (by decide) rfl rfl (by decide) (by decide) rfl dX10_excuses_76 ?_
        refine g_callsI (r := mOnes ((((mNotes σ u) 104 16) &&& ((1 <<< (a0 &&& 31)) ^^^ (-1))) ||| (a1 <<< (a0 &&& 31))) 8) (σ' := gu (mNotes σ u) 104 16 ((((mNotes σ u) 104 16) &&& ((1 <<< (a0 &&& 31)) ^^^ (-1))) ||| (a1 <<< (a0 &&& 31)))) (rest := []) (As := [.int ((((mNotes σ u) 104 16) &&& ((1 <<< (a0 &&& 31)) ^^^ (-1))) ||| (a1 <<< (a0 &&& 31)))]) C hW ks_X10_164 (m_ones l G (gu (mNotes σ u) 104 16 ((((mNotes σ u) 104 16) &&& ((1 <<< (a0 &&& 31)) ^^^ (-1))) ||| (a1 <<< (a0 &&& 31)))) τ ((((mNotes σ u) 104 16) &&& ((1 <<< (a0 &&& 31)) ^^^ (-1))) ||| (a1 <<< (a0 &&& 31)))) ⟨Nat.le_of_ble_eq_true rfl, Nat.le_of_ble_eq_true rfl⟩ ⟨Nat.le_refl _, Nat.le_refl _⟩ rfl hl.1 rfl (Nat.le_of_ble_eq_true rfl) dX10_excuses_77 (fun H locs hW => ?_)
        exact g_iret C hr hlk hW dX10_excuses_80 (by rw [if_pos ⟨c_1, c_2⟩, if_neg c_3]) (by rw [if_pos ⟨c_1, c_2⟩, if_neg c_3]) (rfl)
      · skip
        refine lv_bipush (v := (-2)) hx hb dX10_excuses_39 (by decide) ?_
        exact g_iret C hr hlk hW dX10_excuses_41 (by simp [c_1, c_2, c_3]) (by simp [c_1, c_2, c_3]) (rfl)
    · skip
      replace c_2 : (mIn a1 0 1) = false := bI_eq0.mp c_2
      refine lv_iconst (v := (-1)) hx hb dX10_excuses_22 (by decide) ?_
      exact g_iret C hr hlk hW dX10_excuses_23 (by simp [c_1, c_2]) (by simp [c_1, c_2]) (rfl)
set_option maxHeartbeats 4000000 in
set_option maxRecDepth 100000 in
theorem m_swaps (l : Launch) (G : gG) (σ : gSt) (τ : Nat → Int64) (a0 a1 : Int32) (D : Nat) (hD : σ 98 2 = nI D) (hD8 : D ≤ 8) (u : Nat) (hu : σ 96 20 = nI u) (hu2 : u ≤ 10) : gI l yX10_swaps cX10_swaps 4 (some .int) 2 43 G [.ref (gAd G 96), .int a0, .int a1] σ τ (if (mIn a0 0 (σ 98 2 - 1) = true ∧ mIn a1 0 (σ 98 2 - 1) = true) then (if (σ 104 (17 + a0.toNatClampNeg) = σ 104 (17 + a1.toNatClampNeg)) then -2 else σ 104 (17 + a1.toNatClampNeg)) else -1) (if (mIn a0 0 (σ 98 2 - 1) = true ∧ mIn a1 0 (σ 98 2 - 1) = true) then (if (σ 104 (17 + a0.toNatClampNeg) = σ 104 (17 + a1.toNatClampNeg)) then σ else gu (gu (mNotes σ u) 104 (17 + a0.toNatClampNeg) (mNotes σ u 104 (17 + a1.toNatClampNeg))) 104 (17 + a1.toNatClampNeg) (mNotes σ u 104 (17 + a0.toNatClampNeg))) else σ) τ := by
  refine gMet_of (by decide) (Nat.le_of_ble_eq_true rfl) ?_
  intro p e s m args below meth c C hr hlk ls hl hW
  have hx := C.1
  have hb := C.2.1
  have hl : lv_has ls 4 [(0, .ref (gAd G 96)), (1, .int a0), (2, .int a1)] := hl
  refine lv_aload_n hx hb dX10_swaps_0 rfl (lv_at hl 0 rfl) ?_
  refine lv_iconst (v := 0) hx hb dX10_swaps_1 (by decide) ?_
  refine gp_X10_62 C hW (by decide) rfl dX10_swaps_2 (fun H locs hW => ?_)
  refine lv_aload_n hx hb dX10_swaps_5 rfl (lv_at hl 0 rfl) ?_
  refine lv_iload_n hx hb dX10_swaps_6 rfl (lv_at hl 1 rfl) ?_
  refine g_callvI (r := bI (mIn a0 0 (σ 98 2 - 1))) (σ' := σ) (rest := []) (As := [.int a0]) C hW kv_X10_142 96 (by decide) (gL_10 rfl) rfl (m_isDuty l G σ τ a0) ⟨Nat.le_of_ble_eq_true rfl, Nat.le_of_ble_eq_true rfl⟩ ⟨Nat.le_refl _, Nat.le_refl _⟩ rfl hl.1 rfl (Nat.le_of_ble_eq_true rfl) dX10_swaps_7 (fun H locs hW => ?_)
  refine lv_if_eq (tgt := 21) hx hb dX10_swaps_10 (by decide) (fun c_1 => ?_) (fun c_1 => ?_)
  · skip
    replace c_1 : (mIn a0 0 (σ 98 2 - 1)) = false := bI_eq0.mp c_1
    refine lv_iconst (v := (-1)) hx hb dX10_swaps_21 (by decide) ?_
    exact g_iret C hr hlk hW dX10_swaps_22 (by simp [c_1]) (by simp [c_1]) (rfl)
  · skip
    replace c_1 : (mIn a0 0 (σ 98 2 - 1)) = true := bI_ne0.mp c_1
    refine lv_aload_n hx hb dX10_swaps_13 rfl (lv_at hl 0 rfl) ?_
    refine lv_iload_n hx hb dX10_swaps_14 rfl (lv_at hl 2 rfl) ?_
    refine g_callvI (r := bI (mIn a1 0 (σ 98 2 - 1))) (σ' := σ) (rest := []) (As := [.int a1]) C hW kv_X10_142 96 (by decide) (gL_10 rfl) rfl (m_isDuty l G σ τ a1) ⟨Nat.le_of_ble_eq_true rfl, Nat.le_of_ble_eq_true rfl⟩ ⟨Nat.le_refl _, Nat.le_refl _⟩ rfl hl.1 rfl (Nat.le_of_ble_eq_true rfl) dX10_swaps_15 (fun H locs hW => ?_)
    refine lv_if_ne (tgt := 23) hx hb dX10_swaps_18 (by decide) (fun c_2 => ?_) (fun c_2 => ?_)
    · skip
      replace c_2 : (mIn a1 0 (σ 98 2 - 1)) = true := bI_ne0.mp c_2
      have hp0 := c_1
      rw [hD] at hp0
      have hp := mIn_nat (N := D) hp0 (by omega)
      have hq0 := c_2
      rw [hD] at hq0
      have hq := mIn_nat (N := D) hq0 (by omega)
      refine lv_aload_n hx hb dX10_swaps_23 rfl (lv_at hl 0 rfl) ?_
      refine gf_X10_31 C hW (by decide) rfl dX10_swaps_24 ?_
      refine lv_bipush (v := 17) hx hb dX10_swaps_27 (by decide) ?_
      refine lv_iload_n hx hb dX10_swaps_29 rfl (lv_at hl 1 rfl) ?_
      refine lv_iadd hx hb dX10_swaps_30 ?_
      refine g_ald (v := σ 104 (17 + a0.toNatClampNeg)) (17 + a0.toNatClampNeg) C hW (by decide) rfl (gadd (rfl : 17 = nI 17) hp.1) (show (17 + a0.toNatClampNeg) < 25 by omega) (by decide) rfl dX10_swaps_31 ?_
      refine lv_aload_n hx hb dX10_swaps_32 rfl (lv_at hl 0 rfl) ?_
      refine gf_X10_31 C hW (by decide) rfl dX10_swaps_33 ?_
      refine lv_bipush (v := 17) hx hb dX10_swaps_36 (by decide) ?_
      refine lv_iload_n hx hb dX10_swaps_38 rfl (lv_at hl 2 rfl) ?_
      refine lv_iadd hx hb dX10_swaps_39 ?_
      refine g_ald (v := σ 104 (17 + a1.toNatClampNeg)) (17 + a1.toNatClampNeg) C hW (by decide) rfl (gadd (rfl : 17 = nI 17) hq.1) (show (17 + a1.toNatClampNeg) < 25 by omega) (by decide) rfl dX10_swaps_40 ?_
      refine lv_icmp_ne (tgt := 47) hx hb dX10_swaps_41 (by decide) (fun c_3 => ?_) (fun c_3 => ?_)
      · skip
        refine lv_aload_n hx hb dX10_swaps_47 rfl (lv_at hl 0 rfl) ?_
        refine g_callvV (σ' := mNotes σ u) (rest := []) (As := []) C hW kv_X10_158 96 (by decide) (gL_10 rfl) rfl (m_notes l G σ τ u hu hu2) ⟨Nat.le_of_ble_eq_true rfl, Nat.le_of_ble_eq_true rfl⟩ ⟨Nat.le_refl _, Nat.le_refl _⟩ rfl hl.1 rfl (Nat.le_of_ble_eq_true rfl) dX10_swaps_48 (fun H locs hW => ?_)
        refine lv_aload_n hx hb dX10_swaps_51 rfl (lv_at hl 0 rfl) ?_
        refine gf_X10_31 C hW (by decide) rfl dX10_swaps_52 ?_
        refine lv_bipush (v := 17) hx hb dX10_swaps_55 (by decide) ?_
        refine lv_iload_n hx hb dX10_swaps_57 rfl (lv_at hl 1 rfl) ?_
        refine lv_iadd hx hb dX10_swaps_58 ?_
        refine g_ald (v := (mNotes σ u) 104 (17 + a0.toNatClampNeg)) (17 + a0.toNatClampNeg) C hW (by decide) rfl (gadd (rfl : 17 = nI 17) hp.1) (show (17 + a0.toNatClampNeg) < 25 by omega) (by decide) rfl dX10_swaps_59 ?_
        refine lv_istore_n (lv' := [(3, .int ((mNotes σ u) 104 (17 + a0.toNatClampNeg))), (0, .ref (gAd G 96)), (1, .int a0), (2, .int a1)]) hx hb dX10_swaps_60 rfl hl (by decide) rfl (fun ls hl => ?_)
        refine lv_aload_n hx hb dX10_swaps_61 rfl (lv_at hl 1 rfl) ?_
        refine gf_X10_31 C hW (by decide) rfl dX10_swaps_62 ?_
        refine lv_bipush (v := 17) hx hb dX10_swaps_65 (by decide) ?_
        refine lv_iload_n hx hb dX10_swaps_67 rfl (lv_at hl 2 rfl) ?_
        refine lv_iadd hx hb dX10_swaps_68 ?_
        refine lv_aload_n hx hb dX10_swaps_69 rfl (lv_at hl 1 rfl) ?_
        refine gf_X10_31 C hW (by decide) rfl dX10_swaps_70 ?_
        refine lv_bipush (v := 17) hx hb dX10_swaps_73 (by decide) ?_
        refine lv_iload_n hx hb dX10_swaps_75 rfl (lv_at hl 3 rfl) ?_
        refine lv_iadd hx hb dX10_swaps_76 ?_
        refine g_ald (v := (mNotes σ u) 104 (17 + a1.toNatClampNeg)) (17 + a1.toNatClampNeg) C hW (by decide) rfl (gadd (rfl : 17 = nI 17) hq.1) (show (17 + a1.toNatClampNeg) < 25 by omega) (by decide) rfl dX10_swaps_77 ?_
        refine g_ast (17 + a0.toNatClampNeg) C hW (by decide) rfl (gadd (rfl : 17 = nI 17) hp.1) (show (17 + a0.toNatClampNeg) < 25 by omega) (by decide) dX10_swaps_78 (fun H locs hW => ?_)
        refine lv_aload_n hx hb dX10_swaps_79 rfl (lv_at hl 1 rfl) ?_
        refine gf_X10_31 C hW (by decide) rfl dX10_swaps_80 ?_
        refine lv_bipush (v := 17) hx hb dX10_swaps_83 (by decide) ?_
        refine lv_iload_n hx hb dX10_swaps_85 rfl (lv_at hl 3 rfl) ?_
        refine lv_iadd hx hb dX10_swaps_86 ?_
        refine lv_iload_n hx hb dX10_swaps_87 rfl (lv_at hl 0 rfl) ?_
        refine g_ast (17 + a1.toNatClampNeg) C hW (by decide) rfl (gadd (rfl : 17 = nI 17) hq.1) (show (17 + a1.toNatClampNeg) < 25 by omega) (by decide) dX10_swaps_88 (fun H locs hW => ?_)
        refine lv_aload_n hx hb dX10_swaps_89 rfl (lv_at hl 1 rfl) ?_
        refine gf_X10_31 C hW (by decide) rfl dX10_swaps_90 ?_
        refine lv_bipush (v := 17) hx hb dX10_swaps_93 (by decide) ?_
        refine lv_iload_n hx hb dX10_swaps_95 rfl (lv_at hl 2 rfl) ?_
        refine lv_iadd hx hb dX10_swaps_96 ?_
        refine g_ald (v := (gu (gu (mNotes σ u) 104 (17 + a0.toNatClampNeg) ((mNotes σ u) 104 (17 + a1.toNatClampNeg))) 104 (17 + a1.toNatClampNeg) ((mNotes σ u) 104 (17 + a0.toNatClampNeg))) 104 (17 + a0.toNatClampNeg)) (17 + a0.toNatClampNeg) C hW (by decide) rfl (gadd (rfl : 17 = nI 17) hp.1) (show (17 + a0.toNatClampNeg) < 25 by omega) (by decide) rfl dX10_swaps_97 ?_
        exact g_iret C hr hlk hW dX10_swaps_98 (by rw [if_pos ⟨c_1, c_2⟩, if_neg c_3, gu_at, if_neg (by rintro ⟨_, q⟩; exact c_3 (by rw [q])), gu_at, if_pos ⟨rfl, rfl⟩, mNotes_ne (by decide) (by decide)]) (by rw [if_pos ⟨c_1, c_2⟩, if_neg c_3]) (rfl)
      · skip
        refine lv_bipush (v := (-2)) hx hb dX10_swaps_44 (by decide) ?_
        exact g_iret C hr hlk hW dX10_swaps_46 (by simp [c_1, c_2, c_3]) (by simp [c_1, c_2, c_3]) (rfl)
    · skip
      replace c_2 : (mIn a1 0 (σ 98 2 - 1)) = false := bI_eq0.mp c_2
      refine lv_iconst (v := (-1)) hx hb dX10_swaps_21 (by decide) ?_
      exact g_iret C hr hlk hW dX10_swaps_22 (by simp [c_1, c_2]) (by simp [c_1, c_2]) (rfl)
set_option maxHeartbeats 4000000 in
set_option maxRecDepth 100000 in
theorem m_undo (l : Launch) (G : gG) (σ : gSt) (τ : Nat → Int64) (u : Nat) (hu : σ 96 20 = nI u) (hu2 : u ≤ 10) : gI l yX10_undo cX10_undo 2 (some .int) 0 0 G [.ref (gAd G 96)] σ τ (if u = 0 then -2 else nI (u - 1)) (if u = 0 then σ else gcp 104 107 0 (25 * (u - 1)) (gu σ 96 20 (nI (u - 1))) 25) τ := by
  refine gMet_of (by decide) (Nat.le_of_ble_eq_true rfl) ?_
  intro p e s m args below meth c C hr hlk ls hl hW
  have hx := C.1
  have hb := C.2.1
  have hl : lv_has ls 2 [(0, .ref (gAd G 96))] := hl
  refine lv_aload_n hx hb dX10_undo_0 rfl (lv_at hl 0 rfl) ?_
  refine lv_iconst (v := 0) hx hb dX10_undo_1 (by decide) ?_
  refine gp_X10_62 C hW (by decide) rfl dX10_undo_2 (fun H locs hW => ?_)
  refine lv_aload_n hx hb dX10_undo_5 rfl (lv_at hl 0 rfl) ?_
  refine gf_X10_124 (v := nI u) C hW (by decide) rfl hu dX10_undo_6 ?_
  refine lv_if_ne (tgt := 15) hx hb dX10_undo_9 (by decide) (fun c_1 => ?_) (fun c_1 => ?_)
  · skip
    replace c_1 : ¬ u = 0 := mt (nI_eq (a := u) (b := 0) (by omega) (by omega)).mpr c_1
    obtain ⟨w, hw⟩ : ∃ w, u = w + 1 := ⟨u - 1, by omega⟩
    refine lv_aload_n hx hb dX10_undo_15 rfl (lv_at hl 0 rfl) ?_
    refine lv_dup hx hb dX10_undo_16 rfl ?_
    refine gf_X10_124 (v := nI (w + 1)) C hW (by decide) rfl (by rw [hu, hw]) dX10_undo_17 ?_
    refine lv_iconst (v := 1) hx hb dX10_undo_20 (by decide) ?_
    refine lv_isub hx hb dX10_undo_21 ?_
    rw [nI_pred]
    refine gp_X10_124 C hW (by decide) rfl dX10_undo_22 (fun H locs hW => ?_)
    refine lv_iconst (v := 0) hx hb dX10_undo_25 (by decide) ?_
    refine lv_istore_n (lv' := [(1, .int 0), (0, .ref (gAd G 96))]) hx hb dX10_undo_26 rfl hl (by decide) rfl (fun ls hl => ?_)
    have L27 : ∀ (n : Nat) (k : Nat) (H : Heap) (locs : List Loc) (ls : Array Slot), n + k = 25 → gW G s (gcp 104 107 0 (25 * w) (gu σ 96 20 (nI w)) k) τ H locs → lv_has ls 2 [(1, .int (nI k)), (0, .ref (gAd G 96))] → W p l e (gRm 0 0) s m args below meth c H locs 0 0 (MQ below (gQi G (if u = 0 then -2 else nI (u - 1)) (if u = 0 then σ else gcp 104 107 0 (25 * (u - 1)) (gu σ 96 20 (nI (u - 1))) 25) τ) args s 0 0 (gA G)) (F0 m 27 ls []) := by
      intro n
      induction n with
      | zero =>
        intro k H locs ls hm hW hl
        refine lv_iload_n hx hb dX10_undo_27 rfl (lv_at hl 0 rfl) ?_
        refine lv_bipush (v := 25) hx hb dX10_undo_28 (by decide) ?_
        refine lv_icmp_ge (tgt := 59) hx hb dX10_undo_30 (by decide) (fun _ => ?_) (fun zz => absurd (show nI 25 ≤ nI k from nI_le (by omega) (by omega)) zz)
        refine lv_aload_n hx hb dX10_undo_59 rfl (lv_at hl 1 rfl) ?_
        refine gf_X10_124 (v := nI w) C hW (by decide) rfl (by rw [gcp_ne (by decide)]; rfl) dX10_undo_60 ?_
        exact g_iret C hr hlk hW dX10_undo_63 (by rw [if_neg (by omega), show u - 1 = w by omega]) (by rw [if_neg (by omega), show u - 1 = w by omega, show k = 25 by omega]) (rfl)
      | succ n ih27 =>
        intro k H locs ls hm hW hl
        refine lv_iload_n hx hb dX10_undo_27 rfl (lv_at hl 0 rfl) ?_
        refine lv_bipush (v := 25) hx hb dX10_undo_28 (by decide) ?_
        refine lv_icmp_ge (tgt := 59) hx hb dX10_undo_30 (by decide) (fun zz => absurd zz (show ¬ nI 25 ≤ nI k from nI_ge (by omega) (by omega))) (fun _ => ?_)
        refine lv_aload_n hx hb dX10_undo_33 rfl (lv_at hl 1 rfl) ?_
        refine gf_X10_31 C hW (by decide) rfl dX10_undo_34 ?_
        refine lv_iload_n hx hb dX10_undo_37 rfl (lv_at hl 0 rfl) ?_
        refine lv_aload_n hx hb dX10_undo_38 rfl (lv_at hl 1 rfl) ?_
        refine gf_X10_41 C hW (by decide) rfl dX10_undo_39 ?_
        refine lv_bipush (v := 25) hx hb dX10_undo_42 (by decide) ?_
        refine lv_aload_n hx hb dX10_undo_44 rfl (lv_at hl 1 rfl) ?_
        refine gf_X10_124 (v := nI w) C hW (by decide) rfl (by rw [gcp_ne (by decide)]; rfl) dX10_undo_45 ?_
        refine lv_imul hx hb dX10_undo_48 ?_
        refine lv_iload_n hx hb dX10_undo_49 rfl (lv_at hl 0 rfl) ?_
        refine lv_iadd hx hb dX10_undo_50 ?_
        refine g_ald (v := (gcp 104 107 0 (25 * w) (gu σ 96 20 (nI w)) k) 107 ((25 * w) + k)) ((25 * w) + k) C hW (by decide) rfl (gadd (gmul (rfl : 25 = nI 25) (rfl : nI w = nI w)) (rfl : nI k = nI k)) (show ((25 * w) + k) < 250 by omega) (by decide) rfl dX10_undo_51 ?_
        refine g_ast k C hW (by decide) rfl rfl (show k < 25 by omega) (by decide) dX10_undo_52 (fun H locs hW => ?_)
        refine lv_iinc (v := nI (k + 1)) (lv' := [(1, .int (nI (k + 1))), (0, .ref (gAd G 96))]) hx hb dX10_undo_53 hl (k := 0) rfl (nI_1 _) (by decide) rfl (fun ls hl => ?_)
        refine lv_goto (tgt := 27) hx hb dX10_undo_56 (by decide) ?_
        exact ih27 (k + 1) _ _ _ (by omega)  (by simpa [gcp] using hW) (lv_sub hl [0, 1] rfl)
    exact L27 25 0 _ _ _ (by omega)  hW (lv_sub hl [0, 1] rfl)
  · skip
    replace c_1 : u = 0 := (nI_eq (a := u) (b := 0) (by omega) (by omega)).mp c_1
    refine lv_bipush (v := (-2)) hx hb dX10_undo_12 (by decide) ?_
    exact g_iret C hr hlk hW dX10_undo_14 (by rw [if_pos c_1]) (by rw [if_pos c_1]) (rfl)
set_option maxHeartbeats 4000000 in
set_option maxRecDepth 100000 in
theorem m_rings (l : Launch) (G : gG) (σ : gSt) (τ : Nat → Int64) (a0 : Int32) (D : Nat) (hD : σ 98 2 = nI D) (hD8 : D ≤ 8) (N : Nat) (hN : σ 98 1 = nI N) (hN5 : N ≤ 5) : gI l yX10_rings cX10_rings 2 (some .int) 2 49 G [.ref (gAd G 96), .int a0] σ τ (if mIn a0 (σ 104 15) 239 = true then mRings σ (σ 104 16) a0 D N else -1) (mNowS σ) τ := by
  refine gMet_of (by decide) (Nat.le_of_ble_eq_true rfl) ?_
  intro p e s m args below meth c C hr hlk ls hl hW
  have hx := C.1
  have hb := C.2.1
  have hl : lv_has ls 2 [(0, .ref (gAd G 96)), (1, .int a0)] := hl
  refine lv_aload_n hx hb dX10_rings_0 rfl (lv_at hl 0 rfl) ?_
  refine lv_iconst (v := 0) hx hb dX10_rings_1 (by decide) ?_
  refine gp_X10_62 C hW (by decide) rfl dX10_rings_2 (fun H locs hW => ?_)
  refine lv_aload_n hx hb dX10_rings_5 rfl (lv_at hl 0 rfl) ?_
  refine g_callvV (σ' := gu σ 96 25 (σ 104 16)) (rest := []) (As := []) C hW kv_X10_139 96 (by decide) (gL_10 rfl) rfl (m_asNow l G σ τ) ⟨Nat.le_of_ble_eq_true rfl, Nat.le_of_ble_eq_true rfl⟩ ⟨Nat.le_refl _, Nat.le_refl _⟩ rfl hl.1 rfl (Nat.le_of_ble_eq_true rfl) dX10_rings_6 (fun H locs hW => ?_)
  refine lv_iload_n hx hb dX10_rings_9 rfl (lv_at hl 1 rfl) ?_
  refine lv_aload_n hx hb dX10_rings_10 rfl (lv_at hl 0 rfl) ?_
  refine gf_X10_31 C hW (by decide) rfl dX10_rings_11 ?_
  refine lv_bipush (v := 15) hx hb dX10_rings_14 (by decide) ?_
  refine g_ald (v := σ 104 15) 15 C hW (by decide) rfl rfl (by decide) (by decide) rfl dX10_rings_16 ?_
  refine lv_sipush (v := 239) hx hb dX10_rings_17 (by decide) ?_
  refine g_callsI (r := bI (mIn a0 (σ 104 15) 239)) (σ' := gu σ 96 25 (σ 104 16)) (rest := []) (As := [.int a0, .int (σ 104 15), .int 239]) C hW ks_X10_66 (m_in l G (gu σ 96 25 (σ 104 16)) τ a0 (σ 104 15) 239) ⟨Nat.le_of_ble_eq_true rfl, Nat.le_of_ble_eq_true rfl⟩ ⟨Nat.le_refl _, Nat.le_refl _⟩ rfl hl.1 rfl (Nat.le_of_ble_eq_true rfl) dX10_rings_20 (fun H locs hW => ?_)
  refine lv_if_eq (tgt := 34) hx hb dX10_rings_23 (by decide) (fun c_1 => ?_) (fun c_1 => ?_)
  · skip
    replace c_1 : (mIn a0 (σ 104 15) 239) = false := bI_eq0.mp c_1
    refine lv_iconst (v := (-1)) hx hb dX10_rings_34 (by decide) ?_
    exact g_iret C hr hlk hW dX10_rings_35 (by simp [bI, c_1]) (rfl) (rfl)
  · skip
    replace c_1 : (mIn a0 (σ 104 15) 239) = true := bI_ne0.mp c_1
    refine lv_aload_n hx hb dX10_rings_26 rfl (lv_at hl 0 rfl) ?_
    refine lv_iload_n hx hb dX10_rings_27 rfl (lv_at hl 1 rfl) ?_
    refine g_callvI (r := mRings σ (σ 104 16) a0 D N) (σ' := gu σ 96 25 (σ 104 16)) (rest := []) (As := [.int a0]) C hW kv_X10_145 96 (by decide) (gL_10 rfl) rfl (m_ringsIn l G (gu σ 96 25 (σ 104 16)) τ a0 D (hD) hD8 N (hN) hN5) ⟨Nat.le_of_ble_eq_true rfl, Nat.le_of_ble_eq_true rfl⟩ ⟨Nat.le_refl _, Nat.le_refl _⟩ rfl hl.1 rfl (Nat.le_of_ble_eq_true rfl) dX10_rings_28 (fun H locs hW => ?_)
    refine lv_goto (tgt := 35) hx hb dX10_rings_31 (by decide) ?_
    exact g_iret C hr hlk hW dX10_rings_35 (by simp [bI, c_1]) (rfl) (rfl)
set_option maxHeartbeats 4000000 in
set_option maxRecDepth 100000 in
theorem m_chord (l : Launch) (G : gG) (σ : gSt) (τ : Nat → Int64) (a0 a1 : Int32) (D : Nat) (hD : σ 98 2 = nI D) (hD8 : D ≤ 8) (N : Nat) (hN : σ 98 1 = nI N) (hN5 : N ≤ 5) (mi : Nat) (hmi : σ 104 15 = nI mi) (hmi2 : mi ≤ 240) : gI l yX10_chord cX10_chord 6 (some .int) 2 49 G [.ref (gAd G 96), .int a0, .int a1] σ τ (if (mIn a0 0 ((1 <<< (σ 98 1 &&& 31)) - 1) = true ∧ mIn a1 0 1 = true) then (if a1 = 0 then rCount (fun m => decide (mRings σ (σ 104 16) (nI m) D N = a0)) mi (240 - mi) else rFst (fun m => decide (mRings σ (σ 104 16) (nI m) D N = a0)) mi (240 - mi)) else -1) (if (mIn a0 0 ((1 <<< (σ 98 1 &&& 31)) - 1) = true ∧ mIn a1 0 1 = true) then mNowS σ else σ) τ := by
  refine gMet_of (by decide) (Nat.le_of_ble_eq_true rfl) ?_
  intro p e s m args below meth c C hr hlk ls hl hW
  have hx := C.1
  have hb := C.2.1
  have hl : lv_has ls 6 [(0, .ref (gAd G 96)), (1, .int a0), (2, .int a1)] := hl
  refine lv_aload_n hx hb dX10_chord_0 rfl (lv_at hl 0 rfl) ?_
  refine lv_iconst (v := 0) hx hb dX10_chord_1 (by decide) ?_
  refine gp_X10_62 C hW (by decide) rfl dX10_chord_2 (fun H locs hW => ?_)
  refine lv_aload_n hx hb dX10_chord_5 rfl (lv_at hl 0 rfl) ?_
  refine lv_iload_n hx hb dX10_chord_6 rfl (lv_at hl 1 rfl) ?_
  refine g_callvI (r := bI (mIn a0 0 ((1 <<< (σ 98 1 &&& 31)) - 1))) (σ' := σ) (rest := []) (As := [.int a0]) C hW kv_X10_167 96 (by decide) (gL_10 rfl) rfl (m_isSet l G σ τ a0) ⟨Nat.le_of_ble_eq_true rfl, Nat.le_of_ble_eq_true rfl⟩ ⟨Nat.le_refl _, Nat.le_refl _⟩ rfl hl.1 rfl (Nat.le_of_ble_eq_true rfl) dX10_chord_7 (fun H locs hW => ?_)
  refine lv_if_eq (tgt := 22) hx hb dX10_chord_10 (by decide) (fun c_1 => ?_) (fun c_1 => ?_)
  · skip
    replace c_1 : (mIn a0 0 ((1 <<< (σ 98 1 &&& 31)) - 1)) = false := bI_eq0.mp c_1
    refine lv_iconst (v := (-1)) hx hb dX10_chord_22 (by decide) ?_
    exact g_iret C hr hlk hW dX10_chord_23 (by simp [c_1]) (by simp [c_1]) (rfl)
  · skip
    replace c_1 : (mIn a0 0 ((1 <<< (σ 98 1 &&& 31)) - 1)) = true := bI_ne0.mp c_1
    refine lv_iload_n hx hb dX10_chord_13 rfl (lv_at hl 2 rfl) ?_
    refine lv_iconst (v := 0) hx hb dX10_chord_14 (by decide) ?_
    refine lv_iconst (v := 1) hx hb dX10_chord_15 (by decide) ?_
    refine g_callsI (r := bI (mIn a1 0 1)) (σ' := σ) (rest := []) (As := [.int a1, .int 0, .int 1]) C hW ks_X10_66 (m_in l G σ τ a1 0 1) ⟨Nat.le_of_ble_eq_true rfl, Nat.le_of_ble_eq_true rfl⟩ ⟨Nat.le_refl _, Nat.le_refl _⟩ rfl hl.1 rfl (Nat.le_of_ble_eq_true rfl) dX10_chord_16 (fun H locs hW => ?_)
    refine lv_if_ne (tgt := 24) hx hb dX10_chord_19 (by decide) (fun c_2 => ?_) (fun c_2 => ?_)
    · skip
      replace c_2 : (mIn a1 0 1) = true := bI_ne0.mp c_2
      refine lv_aload_n hx hb dX10_chord_24 rfl (lv_at hl 0 rfl) ?_
      refine g_callvV (σ' := gu σ 96 25 (σ 104 16)) (rest := []) (As := []) C hW kv_X10_139 96 (by decide) (gL_10 rfl) rfl (m_asNow l G σ τ) ⟨Nat.le_of_ble_eq_true rfl, Nat.le_of_ble_eq_true rfl⟩ ⟨Nat.le_refl _, Nat.le_refl _⟩ rfl hl.1 rfl (Nat.le_of_ble_eq_true rfl) dX10_chord_25 (fun H locs hW => ?_)
      refine lv_iconst (v := 0) hx hb dX10_chord_28 (by decide) ?_
      refine lv_istore_n (lv' := [(3, .int 0), (0, .ref (gAd G 96)), (1, .int a0), (2, .int a1)]) hx hb dX10_chord_29 rfl hl (by decide) rfl (fun ls hl => ?_)
      refine lv_bipush (v := (-9)) hx hb dX10_chord_30 (by decide) ?_
      refine lv_istore (lv' := [(4, .int (-9)), (3, .int 0), (0, .ref (gAd G 96)), (1, .int a0), (2, .int a1)]) hx hb dX10_chord_32 hl (by decide) rfl (fun ls hl => ?_)
      refine lv_aload_n hx hb dX10_chord_34 rfl (lv_at hl 2 rfl) ?_
      refine gf_X10_31 C hW (by decide) rfl dX10_chord_35 ?_
      refine lv_bipush (v := 15) hx hb dX10_chord_38 (by decide) ?_
      refine g_ald (v := nI mi) 15 C hW (by decide) rfl rfl (by decide) (by decide) hmi dX10_chord_40 ?_
      refine lv_istore (lv' := [(5, .int (nI mi)), (4, .int (-9)), (3, .int 0), (0, .ref (gAd G 96)), (1, .int a0), (2, .int a1)]) hx hb dX10_chord_41 hl (by decide) rfl (fun ls hl => ?_)
      have L43 : ∀ (n : Nat) (i : Nat) (v : Int32) (w : Int32) (H : Heap) (locs : List Loc) (ls : Array Slot), n + (mi + i) = 240 → v = rCount (fun m => decide (mRings σ (σ 104 16) (nI m) D N = a0)) mi i → w = rFst (fun m => decide (mRings σ (σ 104 16) (nI m) D N = a0)) mi i → gW G s (gu σ 96 25 (σ 104 16)) τ H locs → lv_has ls 6 [(5, .int (nI (mi + i))), (4, .int w), (3, .int v), (0, .ref (gAd G 96)), (1, .int a0), (2, .int a1)] → W p l e (gRm 2 49) s m args below meth c H locs 0 0 (MQ below (gQi G (if (mIn a0 0 ((1 <<< (σ 98 1 &&& 31)) - 1) = true ∧ mIn a1 0 1 = true) then (if a1 = 0 then rCount (fun m => decide (mRings σ (σ 104 16) (nI m) D N = a0)) mi (240 - mi) else rFst (fun m => decide (mRings σ (σ 104 16) (nI m) D N = a0)) mi (240 - mi)) else -1) (if (mIn a0 0 ((1 <<< (σ 98 1 &&& 31)) - 1) = true ∧ mIn a1 0 1 = true) then mNowS σ else σ) τ) args s 0 0 (gA G)) (F0 m 43 ls []) := by
        intro n
        induction n with
        | zero =>
          intro i v w H locs ls hm hv hw hW hl
          refine lv_iload hx hb dX10_chord_43 (lv_at hl 0 rfl) ?_
          refine lv_sipush (v := 240) hx hb dX10_chord_45 (by decide) ?_
          refine lv_icmp_ge (tgt := 83) hx hb dX10_chord_48 (by decide) (fun _ => ?_) (fun zz => absurd (show nI 240 ≤ nI (mi + i) from nI_le (by omega) (by omega)) zz)
          refine lv_iload_n hx hb dX10_chord_83 rfl (lv_at hl 5 rfl) ?_
          refine lv_if_ne (tgt := 91) hx hb dX10_chord_84 (by decide) (fun c_3 => ?_) (fun c_3 => ?_)
          · skip
            refine lv_iload hx hb dX10_chord_91 (lv_at hl 1 rfl) ?_
            exact g_iret C hr hlk hW dX10_chord_93 (by rw [if_pos ⟨c_1, c_2⟩, if_neg c_3, hw, show i = 240 - mi by omega]) (by rw [if_pos ⟨c_1, c_2⟩]) (rfl)
          · skip
            refine lv_iload_n hx hb dX10_chord_87 rfl (lv_at hl 2 rfl) ?_
            refine lv_goto (tgt := 93) hx hb dX10_chord_88 (by decide) ?_
            exact g_iret C hr hlk hW dX10_chord_93 (by rw [if_pos ⟨c_1, c_2⟩, if_pos c_3, hv, show i = 240 - mi by omega]) (by rw [if_pos ⟨c_1, c_2⟩]) (rfl)
        | succ n ih43 =>
          intro i v w H locs ls hm hv hw hW hl
          refine lv_iload hx hb dX10_chord_43 (lv_at hl 0 rfl) ?_
          refine lv_sipush (v := 240) hx hb dX10_chord_45 (by decide) ?_
          refine lv_icmp_ge (tgt := 83) hx hb dX10_chord_48 (by decide) (fun zz => absurd zz (show ¬ nI 240 ≤ nI (mi + i) from nI_ge (by omega) (by omega))) (fun _ => ?_)
          refine lv_aload_n hx hb dX10_chord_51 rfl (lv_at hl 3 rfl) ?_
          refine lv_iload hx hb dX10_chord_52 (lv_at hl 0 rfl) ?_
          refine g_callvI (r := mRings σ (σ 104 16) (nI (mi + i)) D N) (σ' := gu σ 96 25 (σ 104 16)) (rest := []) (As := [.int (nI (mi + i))]) C hW kv_X10_145 96 (by decide) (gL_10 rfl) rfl (m_ringsIn l G (gu σ 96 25 (σ 104 16)) τ (nI (mi + i)) D (hD) hD8 N (hN) hN5) ⟨Nat.le_of_ble_eq_true rfl, Nat.le_of_ble_eq_true rfl⟩ ⟨Nat.le_refl _, Nat.le_refl _⟩ rfl hl.1 rfl (Nat.le_of_ble_eq_true rfl) dX10_chord_54 (fun H locs hW => ?_)
          refine lv_iload_n hx hb dX10_chord_57 rfl (lv_at hl 4 rfl) ?_
          refine lv_icmp_ne (tgt := 77) hx hb dX10_chord_58 (by decide) (fun c_4 => ?_) (fun c_4 => ?_)
          · skip
            refine lv_iinc (v := nI (mi + i + 1)) (lv' := [(5, .int (nI (mi + i + 1))), (4, .int w), (3, .int v), (0, .ref (gAd G 96)), (1, .int a0), (2, .int a1)]) hx hb dX10_chord_77 hl (k := 0) rfl (nI_1 _) (by decide) rfl (fun ls hl => ?_)
            refine lv_goto (tgt := 43) hx hb dX10_chord_80 (by decide) ?_
            exact ih43 (i + 1) v w _ _ _ (by omega) (by simp [rCount, c_4, hv]) (by simp [rFst, c_1, c_2, c_4, ← hv, hw]) hW (lv_sub hl [0, 1, 2, 3, 4, 5] rfl)
          · skip
            refine lv_iload_n hx hb dX10_chord_61 rfl (lv_at hl 2 rfl) ?_
            refine lv_if_ne (tgt := 70) hx hb dX10_chord_62 (by decide) (fun c_5 => ?_) (fun c_5 => ?_)
            · skip
              refine lv_iload hx hb dX10_chord_70 (lv_at hl 1 rfl) ?_
              refine lv_istore (lv' := [(4, .int w), (5, .int (nI (mi + i))), (3, .int v), (0, .ref (gAd G 96)), (1, .int a0), (2, .int a1)]) hx hb dX10_chord_72 hl (by decide) rfl (fun ls hl => ?_)
              refine lv_iinc (v := v + 1) (lv' := [(3, .int (v + 1)), (4, .int w), (5, .int (nI (mi + i))), (0, .ref (gAd G 96)), (1, .int a0), (2, .int a1)]) hx hb dX10_chord_74 hl (k := 2) rfl (rfl) (by decide) rfl (fun ls hl => ?_)
              refine lv_iinc (v := nI (mi + i + 1)) (lv' := [(5, .int (nI (mi + i + 1))), (3, .int (v + 1)), (4, .int w), (0, .ref (gAd G 96)), (1, .int a0), (2, .int a1)]) hx hb dX10_chord_77 hl (k := 2) rfl (nI_1 _) (by decide) rfl (fun ls hl => ?_)
              refine lv_goto (tgt := 43) hx hb dX10_chord_80 (by decide) ?_
              exact ih43 (i + 1) (v + 1) w _ _ _ (by omega) (by simp [rCount, c_4, hv]) (by simp [rFst, c_1, c_2, c_4, c_5, ← hv, hw]) hW (lv_sub hl [0, 2, 1, 3, 4, 5] rfl)
            · skip
              refine lv_iload hx hb dX10_chord_65 (lv_at hl 0 rfl) ?_
              refine lv_goto (tgt := 72) hx hb dX10_chord_67 (by decide) ?_
              refine lv_istore (lv' := [(4, .int (nI (mi + i))), (5, .int (nI (mi + i))), (3, .int v), (0, .ref (gAd G 96)), (1, .int a0), (2, .int a1)]) hx hb dX10_chord_72 hl (by decide) rfl (fun ls hl => ?_)
              refine lv_iinc (v := v + 1) (lv' := [(3, .int (v + 1)), (4, .int (nI (mi + i))), (5, .int (nI (mi + i))), (0, .ref (gAd G 96)), (1, .int a0), (2, .int a1)]) hx hb dX10_chord_74 hl (k := 2) rfl (rfl) (by decide) rfl (fun ls hl => ?_)
              refine lv_iinc (v := nI (mi + i + 1)) (lv' := [(5, .int (nI (mi + i + 1))), (3, .int (v + 1)), (4, .int (nI (mi + i))), (0, .ref (gAd G 96)), (1, .int a0), (2, .int a1)]) hx hb dX10_chord_77 hl (k := 2) rfl (nI_1 _) (by decide) rfl (fun ls hl => ?_)
              refine lv_goto (tgt := 43) hx hb dX10_chord_80 (by decide) ?_
              exact ih43 (i + 1) (v + 1) (nI (mi + i)) _ _ _ (by omega) (by simp [rCount, c_4, hv]) (by simp [rFst, c_1, c_2, c_4, c_5, ← hv, hw]) hW (lv_sub hl [0, 2, 1, 3, 4, 5] rfl)
      exact L43 (240 - mi) 0 0 (-9) _ _ _ (by omega) (by first | rfl | simp [bI, c_1, c_2]) (by first | rfl | simp [bI, c_1, c_2]) hW (lv_sub hl [0, 1, 2, 3, 4, 5] rfl)
    · skip
      replace c_2 : (mIn a1 0 1) = false := bI_eq0.mp c_2
      refine lv_iconst (v := (-1)) hx hb dX10_chord_22 (by decide) ?_
      exact g_iret C hr hlk hW dX10_chord_23 (by simp [c_1, c_2]) (by simp [c_1, c_2]) (rfl)
set_option maxHeartbeats 4000000 in
set_option maxRecDepth 100000 in
theorem m_isSilent (l : Launch) (G : gG) (σ : gSt) (τ : Nat → Int64) (a0 : Int32) (D : Nat) (hD : σ 98 2 = nI D) (hD8 : D ≤ 8) (N : Nat) (hN : σ 98 1 = nI N) (hN5 : N ≤ 5) (mi : Nat) (hmi : σ 104 15 = nI mi) (hmi2 : mi ≤ 240) : gI l yX10_isSilent cX10_isSilent 3 (some .boolean) 2 49 G [.ref (gAd G 96), .int a0] σ τ (bI (rNone (fun m => decide (a0 &&& (mRings σ (σ 96 25) (nI m) D N ^^^ -1) = 0)) (240 - mi) mi)) σ τ := by
  refine gMet_of (by decide) (Nat.le_of_ble_eq_true rfl) ?_
  intro p e s m args below meth c C hr hlk ls hl hW
  have hx := C.1
  have hb := C.2.1
  have hl : lv_has ls 3 [(0, .ref (gAd G 96)), (1, .int a0)] := hl
  refine lv_aload_n hx hb dX10_isSilent_0 rfl (lv_at hl 0 rfl) ?_
  refine gf_X10_31 C hW (by decide) rfl dX10_isSilent_1 ?_
  refine lv_bipush (v := 15) hx hb dX10_isSilent_4 (by decide) ?_
  refine g_ald (v := nI mi) 15 C hW (by decide) rfl rfl (by decide) (by decide) hmi dX10_isSilent_6 ?_
  refine lv_istore_n (lv' := [(2, .int (nI mi)), (0, .ref (gAd G 96)), (1, .int a0)]) hx hb dX10_isSilent_7 rfl hl (by decide) rfl (fun ls hl => ?_)
  have L8 : ∀ (n : Nat) (m_ : Nat) (H : Heap) (locs : List Loc) (ls : Array Slot), n + m_ = 240 → rNone (fun m => decide (a0 &&& (mRings σ (σ 96 25) (nI m) D N ^^^ -1) = 0)) n m_ = rNone (fun m => decide (a0 &&& (mRings σ (σ 96 25) (nI m) D N ^^^ -1) = 0)) (240 - mi) mi → gW G s σ τ H locs → lv_has ls 3 [(2, .int (nI m_)), (0, .ref (gAd G 96)), (1, .int a0)] → W p l e (gRm 2 49) s m args below meth c H locs 0 0 (MQ below (gQi G (bI (rNone (fun m => decide (a0 &&& (mRings σ (σ 96 25) (nI m) D N ^^^ -1) = 0)) (240 - mi) mi)) σ τ) args s 0 0 (gA G)) (F0 m 8 ls []) := by
    intro n
    induction n with
    | zero =>
      intro m_ H locs ls hm hq hW hl
      refine lv_iload_n hx hb dX10_isSilent_8 rfl (lv_at hl 0 rfl) ?_
      refine lv_sipush (v := 240) hx hb dX10_isSilent_9 (by decide) ?_
      refine lv_icmp_ge (tgt := 35) hx hb dX10_isSilent_12 (by decide) (fun _ => ?_) (fun zz => absurd (show nI 240 ≤ nI m_ from nI_le (by omega) (by omega)) zz)
      refine lv_iconst (v := 1) hx hb dX10_isSilent_35 (by decide) ?_
      exact g_zret C hr hlk hW dX10_isSilent_36 (rfl) (by rw [← hq]; rfl) (rfl) (rfl)
    | succ n ih8 =>
      intro m_ H locs ls hm hq hW hl
      refine lv_iload_n hx hb dX10_isSilent_8 rfl (lv_at hl 0 rfl) ?_
      refine lv_sipush (v := 240) hx hb dX10_isSilent_9 (by decide) ?_
      refine lv_icmp_ge (tgt := 35) hx hb dX10_isSilent_12 (by decide) (fun zz => absurd zz (show ¬ nI 240 ≤ nI m_ from nI_ge (by omega) (by omega))) (fun _ => ?_)
      refine lv_iload_n hx hb dX10_isSilent_15 rfl (lv_at hl 2 rfl) ?_
      refine lv_aload_n hx hb dX10_isSilent_16 rfl (lv_at hl 1 rfl) ?_
      refine lv_iload_n hx hb dX10_isSilent_17 rfl (lv_at hl 0 rfl) ?_
      refine g_callvI (r := mRings σ (σ 96 25) (nI m_) D N) (σ' := σ) (rest := [.int a0]) (As := [.int (nI m_)]) C hW kv_X10_145 96 (by decide) (gL_10 rfl) rfl (m_ringsIn l G σ τ (nI m_) D (hD) hD8 N (hN) hN5) ⟨Nat.le_of_ble_eq_true rfl, Nat.le_of_ble_eq_true rfl⟩ ⟨Nat.le_refl _, Nat.le_refl _⟩ rfl hl.1 rfl (Nat.le_of_ble_eq_true rfl) dX10_isSilent_18 (fun H locs hW => ?_)
      refine lv_iconst (v := (-1)) hx hb dX10_isSilent_21 (by decide) ?_
      refine lv_ixor hx hb dX10_isSilent_22 ?_
      refine lv_iand hx hb dX10_isSilent_23 ?_
      refine lv_if_ne (tgt := 29) hx hb dX10_isSilent_24 (by decide) (fun c_1 => ?_) (fun c_1 => ?_)
      · skip
        refine lv_iinc (v := nI (m_ + 1)) (lv' := [(2, .int (nI (m_ + 1))), (0, .ref (gAd G 96)), (1, .int a0)]) hx hb dX10_isSilent_29 hl (k := 0) rfl (nI_1 _) (by decide) rfl (fun ls hl => ?_)
        refine lv_goto (tgt := 8) hx hb dX10_isSilent_32 (by decide) ?_
        exact ih8 (m_ + 1) _ _ _ (by omega) (by rw [← hq, rNone, if_neg (dneg c_1)]) hW (lv_sub hl [0, 1, 2] rfl)
      · skip
        refine lv_iconst (v := 0) hx hb dX10_isSilent_27 (by decide) ?_
        exact g_zret C hr hlk hW dX10_isSilent_28 (rfl) (by rw [← hq, rNone, if_pos (dpos c_1)]; rfl) (rfl) (rfl)
  exact L8 (240 - mi) mi _ _ _ (by omega) rfl hW (lv_sub hl [0, 1, 2] rfl)
