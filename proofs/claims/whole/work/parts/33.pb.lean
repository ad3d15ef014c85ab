def kInv (σ : gSt) (p : Int32) (D : Nat) (A : Nat → Bool) (F : Nat → Nat → Nat) (L j : Nat) (S : gSt) : Prop :=
  (∀ c, c ≠ 78 → c ≠ 79 → c ≠ 80 → S c = σ c) ∧ (∀ m, 240 ≤ m + j → m ≤ 240 → S 79 m = nI (wN A m (240 - m))) ∧ (∀ m b, 240 ≤ m + j → m ≤ 240 → b < L → S 80 (m * 6 + b) = nI (F m b)) ∧ (∀ m, 240 ≤ m + j → m < 240 → S 78 m = sDueAt σ p (nI m) D)
theorem kW2_spec {S : gSt} {wk L m : Nat} {F : Nat → Nat → Nat} (hL : L ≤ 6) (hF : ∀ T : gSt, T 78 = S 78 → T 79 = S 79 → (∀ m' b, m < m' → m' ≤ 240 → b < L → T 80 (m' * 6 + b) = S 80 (m' * 6 + b)) → ∀ a, a < L → sFF T wk L m a = nI (F m a)) : ∀ a, a ≤ L → (∀ c, c ≠ 80 → kW2 S wk L m a c = S c) ∧ (∀ b, b < a → kW2 S wk L m a 80 (m * 6 + b) = nI (F m b)) ∧ (∀ m' b, m' ≠ m → b < L → kW2 S wk L m a 80 (m' * 6 + b) = S 80 (m' * 6 + b))
  | 0, _ => ⟨fun _ _ => rfl, fun b hb => by omega, fun _ _ _ _ => rfl⟩
  | a + 1, h => by
    obtain ⟨x, y, z⟩ := kW2_spec hL hF a (by omega)
    have e := hF (kW2 S wk L m a) (x 78 (by decide)) (x 79 (by decide)) (fun m' b h1 _ hb => z m' b (by omega) hb) a (by omega)
    rw [kW2, e]
    refine ⟨fun c hc => by rw [gu_ne hc]; exact x c hc, fun b hb => ?_, fun m' b hm hb => ?_⟩
    · rw [gu_at]
      by_cases q : b = a
      · subst q; rw [if_pos ⟨rfl, rfl⟩]
      · rw [if_neg (by omega)]; exact y b (by omega)
    · rw [gu_at, if_neg (by omega)]; exact z m' b hm hb
theorem kWS_inv {σ : gSt} {p : Int32} {D wk L : Nat} {A : Nat → Bool} {Q : Nat → Nat → Bool} (hw : 1 ≤ wk) (hL : L ≤ 6) (hz : rZero σ) (hA : ∀ m, m < 240 → (sDueAt σ p (nI m) D = 0 ↔ A m = false)) (hQ : ∀ m a, m < 240 → a < L → kRg (sDueAt σ p (nI m) D) a = if Q m a = true then 1 else 0) : ∀ j, j ≤ 240 → kInv σ p D A (fF A Q wk L) L j (kWS σ p D wk L j)
  | 0, _ => by
    refine ⟨fun _ _ _ _ => rfl, fun m a b => ?_, fun m b x y hb => ?_, fun m a b => by omega⟩
    · have : m = 240 := by omega
      subst this
      exact hz.1
    · have : m = 240 := by omega
      subst this
      rw [fF_240 (Nat.le_refl _)]
      exact hz.2 b (by omega)
  | j + 1, hj => by
    obtain ⟨h1, h2, h3, h4⟩ := kWS_inv hw hL hz hA hQ j (by omega)
    rw [kWS]
    generalize kWS σ p D wk L j = S at h1 h2 h3 h4
    have hm : 239 - j < 240 := by omega
    have ed : sDueAt S p (nI (239 - j)) D = sDueAt σ p (nI (239 - j)) D := by
      rw [sDueAt, sDueAt, h1 14 (by decide) (by decide) (by decide), h1 15 (by decide) (by decide) (by decide), h1 13 (by decide) (by decide) (by decide), h1 20 (by decide) (by decide) (by decide), h1 10 (by decide) (by decide) (by decide), h1 16 (by decide) (by decide) (by decide)]
    have s79 : kW1 S p D (239 - j) 79 (239 - j) = nI (wN A (239 - j) (240 - (239 - j))) := by
      rw [kW1, gu_at, if_pos ⟨rfl, rfl⟩, ed, h2 (239 - j + 1) (by omega) (by omega)]
      have s := wN_add (A := A) (m := 239 - j) (x := 1) (240 - (239 - j + 1))
      rw [show 1 + (240 - (239 - j + 1)) = 240 - (239 - j) by omega] at s
      rw [s, show wN A (239 - j) 1 = 0 + (if A (239 - j + 0) = true then 1 else 0) from rfl, show 239 - j + 0 = 239 - j from rfl, Nat.zero_add]
      by_cases c : sDueAt σ p (nI (239 - j)) D = 0
      · rw [if_pos c, (hA _ hm).mp c, Int32.add_zero, if_neg (by decide), Nat.zero_add]
      · have : A (239 - j) = true := by
          cases e : A (239 - j)
          · exact absurd ((hA _ hm).mpr e) c
          · rfl
        rw [if_neg c, this, if_pos rfl, nI_1, Nat.add_comm 1]
    have f79 : ∀ m, m ≠ 239 - j → kW1 S p D (239 - j) 79 m = S 79 m := fun m hx => by
      rw [kW1, gu_at, if_neg (fun z => hx z.2), gu_ne (by decide)]
    have s78 : kW1 S p D (239 - j) 78 (239 - j) = sDueAt σ p (nI (239 - j)) D := by
      rw [kW1, gu_ne (by decide), gu_at, if_pos ⟨rfl, rfl⟩, ed]
    have f78 : ∀ m, m ≠ 239 - j → kW1 S p D (239 - j) 78 m = S 78 m := fun m hx => by
      rw [kW1, gu_ne (by decide), gu_at, if_neg (fun z => hx z.2)]
    have fc : ∀ c, c ≠ 78 → c ≠ 79 → kW1 S p D (239 - j) c = S c := fun c x y => by rw [kW1, gu_ne y, gu_ne x]
    have a79 : ∀ m, 240 ≤ m + (j + 1) → m ≤ 240 → kW1 S p D (239 - j) 79 m = nI (wN A m (240 - m)) := by
      intro m x y
      by_cases c : m = 239 - j
      · rw [c]; exact s79
      · rw [f79 m c]; exact h2 m (by omega) y
    obtain ⟨w1, w2, w3⟩ := kW2_spec (S := kW1 S p D (239 - j)) (wk := wk) (L := L) (m := 239 - j) (F := fF A Q wk L) hL (by
      intro T t1 t2 t3 a ha
      refine kFF_N hw hm ha ?_ (fun m' x y => ?_) (fun m' b x y hb => ?_)
      · rw [t1, s78]; exact hQ _ a hm ha
      · rw [t2]; exact a79 m' (by omega) y
      · rw [t3 m' b x y hb, fc 80 (by decide) (by decide)]; exact h3 m' b (by omega) y hb) L (Nat.le_refl _)
    refine ⟨fun c x y z => ?_, fun m x y => ?_, fun m b x y hb => ?_, fun m x y => ?_⟩
    · rw [w1 c z, fc c x y]; exact h1 c x y z
    · rw [w1 79 (by decide)]; exact a79 m x y
    · by_cases c : m = 239 - j
      · rw [c]; exact w2 b hb
      · rw [w3 m b c hb, fc 80 (by decide) (by decide)]; exact h3 m b (by omega) y hb
    · rw [w1 78 (by decide)]
      by_cases c : m = 239 - j
      · rw [c]; exact s78
      · rw [f78 m c]; exact h4 m (by omega) y
