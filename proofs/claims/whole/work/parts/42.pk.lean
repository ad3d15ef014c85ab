/-! ===== town ===== -/
theorem gfill_at {c : Nat} {σ : gSt} : ∀ (n j : Nat), gfill c σ n c j = if j < n then 0 else σ c j
  | 0, j => by rw [gfill, if_neg (by omega)]
  | n + 1, j => by
    rw [gfill, gu_at, gfill_at n j]
    by_cases h : j = n
    · rw [if_pos ⟨rfl, h⟩, if_pos (by omega)]
    · rw [if_neg (fun z => h z.2)]
      by_cases h2 : j < n
      · rw [if_pos h2, if_pos (by omega)]
      · rw [if_neg h2, if_neg (by omega)]
theorem mSetP_ne {σ : gSt} {c : Nat} (h1 : c ≠ 99) (h2 : c ≠ 104) : ∀ n, mSetP σ n c = σ c
  | 0 => rfl
  | n + 1 => by rw [mSetP, gu_ne h2, gu_ne h1, mSetP_ne h1 h2 n]
theorem mSetP_99 {σ : gSt} : ∀ (n j : Nat), n ≤ 5 → mSetP σ n 99 j = if j < n then σ 99 (5 + j) else σ 99 j
  | 0, j, _ => by rw [mSetP, if_neg (by omega)]
  | n + 1, j, hn => by
    rw [mSetP, gu_ne (by decide), gu_at, mSetP_99 n j (by omega), mSetP_99 n (5 + n) (by omega), if_neg (show ¬ 5 + n < n by omega)]
    by_cases h : j = n
    · subst h; rw [if_pos ⟨rfl, rfl⟩, if_pos (by omega)]
    · rw [if_neg (fun z => h z.2)]
      by_cases h2 : j < n
      · rw [if_pos h2, if_pos (by omega)]
      · rw [if_neg h2, if_neg (by omega)]
theorem mSetP_104 {σ : gSt} : ∀ (n j : Nat), n ≤ 5 → mSetP σ n 104 j = if j < n then (if σ 98 1 ≤ nI j then 0 else σ 99 (5 + j)) else σ 104 j
  | 0, j, _ => by rw [mSetP, if_neg (by omega)]
  | n + 1, j, hn => by
    rw [mSetP, gu_at, gu_s, mSetP_ne (c := 98) (by decide) (by decide), mSetP_99 n (5 + n) (by omega), if_neg (show ¬ 5 + n < n by omega), gu_ne (c := 104) (i := 99) (by decide), mSetP_104 n j (by omega)]
    by_cases h : j = n
    · subst h; rw [if_pos ⟨rfl, rfl⟩, if_pos (show j < j + 1 by omega)]
    · rw [if_neg (fun z => h z.2)]
      by_cases h2 : j < n
      · rw [if_pos h2, if_pos (show j < n + 1 by omega)]
      · rw [if_neg h2, if_neg (show ¬ j < n + 1 by omega)]
theorem mSetD1_ne {S : gSt} {d c : Nat} (h : c < 101 ∨ 103 < c) : mSetD1 S d c = S c := by
  rw [mSetD1, gu_ne (by omega), gu_ne (by omega), gu_ne (by omega)]
theorem mSetD1_at {S : gSt} {d c j : Nat} (h : 101 ≤ c ∧ c ≤ 103) : mSetD1 S d c j = if j = d then S c (8 + d) else S c j := by
  have : c = 101 ∨ c = 102 ∨ c = 103 := by omega
  rw [mSetD1]
  rcases this with rfl | rfl | rfl
  · rw [gu_ne (by decide), gu_ne (by decide), gu_at]; simp
  · rw [gu_ne (by decide), gu_at, gu_ne (by decide)]; simp
  · rw [gu_at, gu_ne (by decide), gu_ne (by decide)]; simp
theorem mSetD_ne {σ : gSt} {c : Nat} (h : c < 101 ∨ 104 < c) : ∀ n, mSetD σ n c = σ c
  | 0 => rfl
  | n + 1 => by rw [mSetD, gu_ne (by omega), mSetD1_ne (by omega), mSetD_ne h n]
theorem mSetD_at {σ : gSt} {c : Nat} (hc : 101 ≤ c ∧ c ≤ 103) : ∀ (n j : Nat), n ≤ 8 → mSetD σ n c j = if j < n then σ c (8 + j) else σ c j
  | 0, j, _ => by rw [mSetD, if_neg (by omega)]
  | n + 1, j, hn => by
    rw [mSetD, gu_ne (by omega), mSetD1_at hc, mSetD_at hc n j (by omega), mSetD_at hc n (8 + n) (by omega), if_neg (show ¬ 8 + n < n by omega)]
    by_cases h : j = n
    · subst h; rw [if_pos rfl, if_pos (by omega)]
    · rw [if_neg h]
      by_cases h2 : j < n
      · rw [if_pos h2, if_pos (by omega)]
      · rw [if_neg h2, if_neg (by omega)]
theorem mSetD_104 {σ : gSt} : ∀ (n j : Nat), mSetD σ n 104 j = if 17 ≤ j ∧ j < 17 + n then (if σ 98 2 ≤ nI (j - 17) then 0 else σ 100 (j - 17)) else σ 104 j
  | 0, j => by rw [mSetD, if_neg (by omega)]
  | n + 1, j => by
    rw [mSetD, gu_at, mSetD1_ne (by omega), mSetD_104 n j, mSetD_ne (c := 98) (by omega), mSetD_ne (c := 100) (by omega)]
    by_cases h : j = 17 + n
    · subst h; rw [if_pos ⟨rfl, rfl⟩, if_pos (show 17 ≤ 17 + n ∧ 17 + n < 17 + (n + 1) by omega), Nat.add_sub_cancel_left]
    · rw [if_neg (fun z => h z.2)]
      by_cases h2 : 17 ≤ j ∧ j < 17 + n
      · rw [if_pos h2, if_pos (show 17 ≤ j ∧ j < 17 + (n + 1) by omega)]
      · rw [if_neg h2, if_neg (show ¬ (17 ≤ j ∧ j < 17 + (n + 1)) by omega)]
section TOWN
variable {S : gSt}
theorem set_98 {j : Nat} (h : j < 5) : mSettle S 98 j = S 98 (5 + j) := by
  rw [mSettle, gu_ne (by decide), gu_ne (by decide), gu_ne (by decide), gu_ne (by decide), gu_ne (by decide), mSetD_ne (by omega), mSetP_ne (by decide) (by decide), gfill_ne (by decide), gcp_at (Or.inr (by decide)), if_pos (by omega)]
  rfl
theorem set_99 {j : Nat} (h : j < 5) : mSettle S 99 j = S 99 (5 + j) := by
  rw [mSettle, gu_ne (by decide), gu_ne (by decide), gu_ne (by decide), gu_ne (by decide), gu_ne (by decide), mSetD_ne (by omega), mSetP_99 5 j (by omega), if_pos h, gfill_ne (by decide), gcp_ne (by decide)]
theorem set_d {c j : Nat} (hc : 101 ≤ c ∧ c ≤ 103) (h : j < 8) : mSettle S c j = S c (8 + j) := by
  rw [mSettle, gu_ne (by omega), gu_ne (by omega), gu_ne (by omega), gu_ne (by omega), gu_ne (by omega), mSetD_at hc 8 j (by omega), if_pos h, mSetP_ne (by omega) (by omega), gfill_ne (by omega), gcp_ne (by omega)]
theorem set_104 {j : Nat} (h : j < 25) : mSettle S 104 j = if 17 ≤ j then (if S 98 7 ≤ nI (j - 17) then 0 else S 100 (j - 17)) else if j < 5 then (if S 98 6 ≤ nI j then 0 else S 99 (5 + j)) else 0 := by
  rw [mSettle, gu_ne (by omega), gu_ne (by omega), gu_ne (by omega), gu_ne (by omega), gu_ne (by omega), mSetD_104 8 j, mSetP_ne (c := 98) (by decide) (by decide), mSetP_ne (c := 100) (by decide) (by decide), mSetP_104 5 j (by omega), gfill_ne (c := 104) (c2 := 98) (by decide), gfill_ne (c := 104) (c2 := 99) (by decide), gfill_ne (c := 104) (c2 := 100) (by decide), gcp_ne (c := 99) (by decide), gcp_ne (c := 100) (by decide), gcp_at (Or.inr (by decide)), gcp_at (Or.inr (by decide)), gfill_at, if_pos h]
  by_cases q : 17 ≤ j
  · rw [if_pos (show 17 ≤ j ∧ j < 17 + 8 by omega), if_pos q]; rfl
  · rw [if_neg (show ¬ (17 ≤ j ∧ j < 17 + 8) by omega), if_neg q]; rfl
theorem set_96 {j : Nat} : mSettle S 96 j = if j = 20 ∨ j = 24 ∨ j = 3 then 0 else S 96 j := by
  rw [mSettle, gu_ne (by decide), gu_ne (by decide), gu_at, gu_at, gu_at, mSetD_ne (by omega), mSetP_ne (by decide) (by decide), gfill_ne (by decide), gcp_ne (by decide)]
  by_cases h1 : j = 20
  · simp [h1]
  · by_cases h2 : j = 24
    · simp [h2]
    · by_cases h3 : j = 3
      · simp [h3]
      · simp [h1, h2, h3]
theorem set_106 {j : Nat} (h : j < 2) : mSettle S 106 j = 0 := by
  rw [mSettle, gu_at]
  by_cases h1 : j = 1
  · rw [if_pos ⟨rfl, h1⟩]
  · rw [if_neg (fun z => h1 z.2), gu_at, if_pos ⟨rfl, by omega⟩]
theorem set_o {c : Nat} (h : c < 96 ∨ c = 97 ∨ c = 100 ∨ c = 105 ∨ 107 ≤ c) : mSettle S c = S c := by
  rw [mSettle, gu_ne (by omega), gu_ne (by omega), gu_ne (by omega), gu_ne (by omega), gu_ne (by omega), mSetD_ne (by omega), mSetP_ne (by omega) (by omega), gfill_ne (by omega), gcp_ne (by omega)]
theorem kBegP_ne {c : Nat} (h : c < 17 ∨ 19 < c) : ∀ n, kBegP S n c = S c
  | 0 => rfl
  | n + 1 => by rw [kBegP, gu_ne (by omega), gu_ne (by omega), gu_ne (by omega), kBegP_ne h n]
theorem kBegP_at : ∀ (n j : Nat), j < n → kBegP S n 17 j = S 11 j ∧ kBegP S n 18 j = 0 ∧ kBegP S n 19 j = 0
  | 0, j, h => absurd h (by omega)
  | n + 1, j, h => by
    rw [kBegP]
    by_cases q : j = n
    · subst q
      refine ⟨?_, ?_, gu_s⟩
      · rw [gu_ne (by decide), gu_ne (by decide), gu_s, kBegP_ne (by omega)]
      · rw [gu_ne (by decide), gu_s]
    · obtain ⟨a, b, c⟩ := kBegP_at n j (by omega)
      refine ⟨?_, ?_, ?_⟩
      · rw [gu_n (by omega), gu_n (by omega), gu_n (by omega), a]
      · rw [gu_n (by omega), gu_n (by omega), gu_n (by omega), b]
      · rw [gu_n (by omega), gu_n (by omega), gu_n (by omega), c]
theorem kPlan_ne {c : Nat} (h : c < 10 ∨ 15 < c) : kPlan S c = S c := by
  rw [kPlan, gcpy_ne (by omega), gcpy_ne (by omega), gcpy_ne (by omega), gcpy_ne (by omega), gcpy_ne (by omega), gu_ne (by omega), gu_ne (by omega), gu_ne (by omega), gu_ne (by omega), gu_ne (by omega)]
theorem kPlan_10 : kPlan S 10 0 = S 3 0 ∧ kPlan S 10 1 = S 3 1 ∧ kPlan S 10 2 = S 3 2 ∧ kPlan S 10 3 = S 3 3 ∧ kPlan S 10 4 = S 3 4 := by
  have e : ∀ j, kPlan S 10 j = gu (gu (gu (gu (gu S 10 0 (S 3 0)) 10 1 (S 3 1)) 10 2 (S 3 2)) 10 3 (S 3 3)) 10 4 (S 3 4) 10 j := fun j => by
    rw [kPlan, gcpy_ne (by omega), gcpy_ne (by omega), gcpy_ne (by omega), gcpy_ne (by omega), gcpy_ne (by omega)]
  simp only [e]
  refine ⟨?_, ?_, ?_, ?_, gu_s⟩
  · rw [gu_n (by decide), gu_n (by decide), gu_n (by decide), gu_n (by decide), gu_s]
  · rw [gu_n (by decide), gu_n (by decide), gu_n (by decide), gu_s]
  · rw [gu_n (by decide), gu_n (by decide), gu_s]
  · rw [gu_n (by decide), gu_s]
theorem kPlan_r {j : Nat} : (j < 5 → kPlan S 11 j = S 4 j) ∧ (j < 8 → kPlan S 12 j = S 5 j ∧ kPlan S 13 j = S 6 j ∧ kPlan S 14 j = S 7 j ∧ kPlan S 15 j = S 8 j) := by
  refine ⟨fun h => ?_, fun h => ⟨?_, ?_, ?_, ?_⟩⟩
  · rw [kPlan, gcpy_ne (by omega), gcpy_ne (by omega), gcpy_ne (by omega), gcpy_ne (by omega), gcpy_at h, gu_ne (by omega), gu_ne (by omega), gu_ne (by omega), gu_ne (by omega), gu_ne (by omega)]
  · rw [kPlan, gcpy_ne (by omega), gcpy_ne (by omega), gcpy_ne (by omega), gcpy_at h, gcpy_ne (by omega), gu_ne (by omega), gu_ne (by omega), gu_ne (by omega), gu_ne (by omega), gu_ne (by omega)]
  · rw [kPlan, gcpy_ne (by omega), gcpy_ne (by omega), gcpy_at h, gcpy_ne (by omega), gcpy_ne (by omega), gu_ne (by omega), gu_ne (by omega), gu_ne (by omega), gu_ne (by omega), gu_ne (by omega)]
  · rw [kPlan, gcpy_ne (by omega), gcpy_at h, gcpy_ne (by omega), gcpy_ne (by omega), gcpy_ne (by omega), gu_ne (by omega), gu_ne (by omega), gu_ne (by omega), gu_ne (by omega), gu_ne (by omega)]
  · rw [kPlan, gcpy_at h, gcpy_ne (by omega), gcpy_ne (by omega), gcpy_ne (by omega), gcpy_ne (by omega), gu_ne (by omega), gu_ne (by omega), gu_ne (by omega), gu_ne (by omega), gu_ne (by omega)]
theorem kBegin_ne {c : Nat} (h : c < 16 ∨ 20 < c) : kBegin S c = S c := by
  rw [kBegin, gcpy_ne (by omega), kBegP_ne (by omega), gu_ne (by omega), gu_ne (by omega)]
theorem kBegin_at : kBegin S 16 0 = 0 ∧ kBegin S 16 1 = 0 ∧ (∀ p, p < 5 → kBegin S 17 p = S 11 p ∧ kBegin S 18 p = 0 ∧ kBegin S 19 p = 0) ∧ (∀ d, d < 8 → kBegin S 20 d = S 12 d) := by
  refine ⟨?_, ?_, fun p hp => ?_, fun d hd => ?_⟩
  · rw [kBegin, gcpy_ne (by decide), kBegP_ne (by omega), gu_n (by decide), gu_s]
  · rw [kBegin, gcpy_ne (by decide), kBegP_ne (by omega), gu_s]
  · rw [kBegin, gcpy_ne (by decide), gcpy_ne (by decide), gcpy_ne (by decide)]
    obtain ⟨a, b, c⟩ := kBegP_at (S := gu (gu S 16 0 0) 16 1 0) 5 p hp
    rw [a, b, c, gu_ne (by decide), gu_ne (by decide)]
    exact ⟨rfl, rfl, rfl⟩
  · rw [kBegin, gcpy_at hd, kBegP_ne (by omega), gu_ne (by decide), gu_ne (by decide)]
end TOWN
/-- what town leaves of the class -/
def kT2 (S : gSt) : gSt := gfill 95 (gu (gu (kBegin (kPlan (gu S 1 1 0))) 21 1 0) 73 0 0) 2
theorem kT2_o {S : gSt} {c : Nat} (h : c ≠ 95 ∧ c ≠ 73 ∧ c ≠ 21) : kT2 S c = kBegin (kPlan (gu S 1 1 0)) c := by
  rw [kT2, gfill_ne h.1, gu_ne h.2.1, gu_ne h.2.2]
theorem kT2_ne {S : gSt} {c : Nat} (h : c ≠ 95 ∧ c ≠ 73 ∧ c ≠ 21 ∧ c ≠ 1) (h2 : c < 10 ∨ 20 < c) : kT2 S c = S c := by
  rw [kT2_o ⟨h.1, h.2.1, h.2.2.1⟩, kBegin_ne (by omega), kPlan_ne (by omega), gu_ne h.2.2.2]
/-- the drafts become the plans -/
theorem settle_rel {S R : gSt} {P N D w f i j : Nat} (hd : tDr S R P N D w f i) (hj : j < 10) (ej : S 21 2 = nI j) (hz : rZero S) : Rel (kT2 S) (mSettle R) P N D w f 0 j 0 0 := by
  obtain ⟨bd, -, ⟨c1, c2, c3, c4, c5⟩, ⟨e1, e2, e3, e4, e5⟩, -, b6, b7⟩ := hd
  have hN : N ≤ 5 := bd.2.2.1
  have hD : D ≤ 8 := bd.2.2.2.1
  have g3 : ∀ j, gu S 1 1 0 3 j = S 3 j := fun j => by rw [gu_ne (by decide)]
  have k10 : ∀ j, kT2 S 10 j = kPlan (gu S 1 1 0) 10 j := fun j => by rw [kT2_o (by decide), kBegin_ne (by omega)]
  have krow : ∀ c, 11 ≤ c → c ≤ 15 → kT2 S c = kPlan (gu S 1 1 0) c := fun c h1 h2 => by rw [kT2_o (by omega), kBegin_ne (by omega)]
  obtain ⟨p0, p1, p2, p3, p4⟩ := kPlan_10 (S := gu S 1 1 0)
  have pr := fun q => kPlan_r (S := gu S 1 1 0) (j := q)
  obtain ⟨v0, v1, v2, v3⟩ := kBegin_at (S := kPlan (gu S 1 1 0))
  have hle : ∀ a b, a ≤ 8 → b < a → ¬ nI a ≤ nI b := fun a b h1 h2 => nI_ge h2 (by omega)
  have s104p : ∀ p, p < N → mSettle R 104 p = R 99 (5 + p) := fun p hp => by
    rw [set_104 (by omega), if_neg (by omega), if_pos (by omega), e2, if_neg (hle N p (by omega) hp)]
  have s104z : ∀ k, 5 ≤ k → k < 17 → mSettle R 104 k = 0 := fun k h1 h2 => by
    rw [set_104 (by omega), if_neg (by omega), if_neg (by omega)]
  have s104d : ∀ d, d < D → mSettle R 104 (17 + d) = R 100 d := fun d hd => by
    rw [set_104 (by omega), if_pos (by omega), Nat.add_sub_cancel_left, e3, if_neg (hle D d (by omega) hd)]
  refine ⟨⟨bd, ⟨?_, ?_, ?_, ?_, ?_⟩, ⟨?_, ?_, ?_, ?_, ?_⟩, ?_, ?_⟩, ⟨⟨?_, ?_, ?_, ?_⟩, ?_, ?_, ?_, ?_⟩, ⟨by omega, hj, ?_, ?_, ?_, ?_⟩, ?_, ⟨by omega, ?_, ?_, ?_⟩, ⟨by omega, ?_, ?_, ?_⟩, ?_⟩
  · rw [k10, p0, g3]; exact c1
  · rw [k10, p1, g3]; exact c2
  · rw [k10, p2, g3]; exact c3
  · rw [k10, p3, g3]; exact c4
  · rw [k10, p4, g3]; exact c5
  · rw [set_98 (by omega)]; exact e1
  · rw [set_98 (by omega)]; exact e2
  · rw [set_98 (by omega)]; exact e3
  · rw [set_98 (by omega)]; exact e4
  · rw [set_98 (by omega)]; exact e5
  · intro p hp
    rw [krow 11 (by omega) (by omega), (pr p).1 (by omega), gu_ne (by decide), set_99 (by omega)]
    exact b6 p hp
  · intro d hd
    obtain ⟨q1, q2, q3, q4⟩ := (pr d).2 (by omega)
    rw [krow 13 (by omega) (by omega), krow 14 (by omega) (by omega), krow 15 (by omega) (by omega), q2, q3, q4, gu_ne (by decide), gu_ne (by decide), gu_ne (by decide), set_d (by omega) (by omega), set_d (by omega) (by omega), set_d (by omega) (by omega)]
    obtain ⟨x1, -, x3⟩ := b7 d hd
    exact ⟨x1.2, x3⟩
  · rw [kT2_o (by decide), v0, s104z 15 (by omega) (by omega)]
  · rw [kT2_o (by decide), v1, s104z 16 (by omega) (by omega)]
  · intro p hp
    obtain ⟨y1, y2, y3⟩ := v2 p (by omega)
    refine ⟨?_, ?_, ?_⟩
    · rw [kT2_o (by decide), y1, (pr p).1 (by omega), gu_ne (by decide), s104p p hp]
      exact (b6 p hp).1
    · rw [kT2_o (by decide), y2, s104z (5 + p) (by omega) (by omega)]
    · rw [kT2_o (by decide), y3, s104z (10 + p) (by omega) (by omega)]
  · intro d hd
    rw [kT2_o (by decide), v3 d (by omega), ((pr d).2 (by omega)).1, gu_ne (by decide), s104d d hd]
    exact (b7 d hd).1.1
  · exact ⟨0, by omega, s104z 15 (by omega) (by omega)⟩
  · exact ⟨0, Nat.two_pow_pos D, s104z 16 (by omega) (by omega)⟩
  · intro p hp
    obtain ⟨-, a, ha, ea⟩ := b6 p hp
    exact ⟨⟨a, ha, (s104p p hp).trans ea⟩, ⟨0, by omega, s104z (5 + p) (by omega) (by omega)⟩⟩
  · intro d hd
    obtain ⟨-, ⟨a, ha, ea⟩, -⟩ := b7 d hd
    exact ⟨a, ha, (s104d d hd).trans ea⟩
  · rw [kT2, gfill_ne (by decide), gu_ne (by decide), gu_s]; rfl
  · rw [kT2, gfill_ne (by decide), gu_ne (by decide), gu_n (by decide), kBegin_ne (by omega), kPlan_ne (by omega), gu_ne (by decide)]; exact ej
  · rw [set_96]; rfl
  · intro q hq; exact absurd hq (by omega)
  · intro q hq
    refine ⟨?_, ?_⟩
    · rw [kT2, gfill_at, if_pos hq, set_106 hq]
    · intro x; exact absurd (set_106 hq) x
  · rw [kT2, gfill_ne (by decide), gu_s]; rfl
  · rw [set_96]; rfl
  · intro q hq; exact absurd hq (by omega)
  · rw [kT2_o (by decide), kBegin_ne (by omega), kPlan_ne (by omega), gu_s]; rfl
  · rw [set_96]; rfl
  · intro q hq; exact absurd hq (by omega)
  · exact rZero_cg hz (kT2_ne (by decide) (by omega)) (kT2_ne (by decide) (by omega))
theorem p_town {σ ρ : gSt} {P N D w f u j hd t : Nat} (h : Rel σ ρ P N D w f u j hd t) : kA_town σ t = mA_town ρ t ∧ RelE (kS_town σ t) (mS_town ρ t) := by
  obtain ⟨⟨r1, r2⟩, r3, r4⟩ := read_rel h.tx
  have hN := h.bd.2.2.1
  have hD := h.bd.2.2.2.1
  have kf : ∀ c, 9 ≤ c → (kRead σ t).1 c = σ c := fun c hc => kRead_ne hc
  have mf : mFr ρ (mTown ρ t).1 := mFr_town
  simp only [kA_town, mA_town, kS_town, mS_town]
  by_cases c : (kRead σ t).1 1 3 = -9
  · have q := r1.well c
    rw [if_pos c, if_pos q.n.2, if_pos c, if_pos q.n.2, r3]
    refine ⟨rfl, ?_⟩
    obtain ⟨P', N', D', w', f', hd'⟩ := r2 c
    have := settle_rel (j := j) hd' h.un.2.1 (by rw [kf 21 (by omega)]; exact h.un.2.2.2.1) (rZero_cg h.ze (kf 79 (by omega)) (kf 80 (by omega)))
    exact ⟨P', N', D', w', f', 0, j, 0, 0, this⟩
  · have q := r1.bad c
    rw [if_neg c, if_neg q.n.2, if_neg c, if_neg q.n.2]
    obtain ⟨s, -, s2, s3⟩ := q
    refine ⟨by rw [s2, s3], P, N, D, w, f, u, j, hd, t, ?_, ?_, ?_, ?_, ?_, r1.1, ?_⟩
    · obtain ⟨bd, a1, a2, a3, a4⟩ := h.pl
      refine ⟨bd, ?_, ?_, ?_, ?_⟩
      · rw [kf 10 (by omega)]; exact a1
      · rw [mf.2.1 0 (by omega), mf.2.1 1 (by omega), mf.2.1 2 (by omega), mf.2.1 3 (by omega), mf.2.1 4 (by omega)]; exact a2
      · intro p hp
        rw [kf 11 (by omega), mf.2.2.1 p (by omega)]; exact a3 p hp
      · intro d hd
        obtain ⟨x1, x2, x3⟩ := mf.2.2.2.1 d (by omega)
        rw [kf 13 (by omega), kf 14 (by omega), kf 15 (by omega), x1, x2, x3]; exact a4 d hd
    · exact mRel_cg h.mo (fun c _ _ => kf c (by omega)) (fun k _ => by rw [mf.1 104 (by omega)]) hN hD
    · exact rUndo_cg h.un hN hD (fun c _ _ => kf c (by omega)) (mf.1 107 (by omega)) mf.2.2.2.2.1
    · exact rImg_cg h.im hN hD (fun c _ _ => kf c (by omega)) (mf.1 105 (by omega)) (mf.1 106 (by omega))
    · exact rHeard_cg h.he (fun c _ _ => kf c (by omega)) (fun c _ _ => mf.1 c (by omega)) mf.2.2.2.2.2
    · exact rZero_cg h.ze (kf 79 (by omega)) (kf 80 (by omega))
