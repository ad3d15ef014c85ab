/-! ===== looks ===== -/
theorem RelE_of {σ ρ : gSt} {P N D w f u j hd t : Nat} (h : Rel σ ρ P N D w f u j hd t) : RelE σ ρ := ⟨P, N, D, w, f, u, j, hd, t, h⟩
theorem rFirst_cg {A B : Nat → Bool} : ∀ n m, (∀ k, m ≤ k → k < m + n → A k = B k) → rFirst A n m = rFirst B n m
  | 0, _, _ => rfl
  | n + 1, m, h => by
    rw [rFirst, rFirst, h m (by omega) (by omega), rFirst_cg n (m + 1) (fun k a b => h k (by omega) (by omega))]
theorem rCount_cg {A B : Nat → Bool} {m : Nat} : ∀ n, (∀ k, m ≤ k → k < m + n → A k = B k) → rCount A m n = rCount B m n
  | 0, _ => rfl
  | n + 1, h => by
    rw [rCount, rCount, h (m + n) (by omega) (by omega), rCount_cg n (fun k a b => h k a (by omega))]
theorem rFirst_spec {A : Nat → Bool} : ∀ n m, ((∀ k, m ≤ k → k < m + n → A k = false) ∧ rFirst A n m = -9) ∨ ∃ x, m ≤ x ∧ x < m + n ∧ A x = true ∧ (∀ k, m ≤ k → k < x → A k = false) ∧ rFirst A n m = nI x
  | 0, m => Or.inl ⟨fun k a b => by omega, rfl⟩
  | n + 1, m => by
    rw [rFirst]
    cases e : A m
    · simp only [Bool.false_eq_true, if_false]
      rcases rFirst_spec (A := A) n (m + 1) with ⟨a, b⟩ | ⟨x, a, b, c, d, g⟩
      · refine Or.inl ⟨fun k h1 h2 => ?_, b⟩
        rcases Nat.lt_or_ge m k with q | q
        · exact a k (by omega) (by omega)
        · rw [show k = m by omega]; exact e
      · refine Or.inr ⟨x, by omega, by omega, c, fun k h1 h2 => ?_, g⟩
        rcases Nat.lt_or_ge m k with q | q
        · exact d k (by omega) (by omega)
        · rw [show k = m by omega]; exact e
    · simp only [if_true]
      exact Or.inr ⟨m, by omega, by omega, e, fun k h1 h2 => by omega, rfl⟩
theorem rFst_spec {A : Nat → Bool} {m : Nat} (hm : m ≤ 1000) : ∀ n, n ≤ 1000 → ((∀ k, m ≤ k → k < m + n → A k = false) ∧ rFst A m n = -9 ∧ rCount A m n = 0) ∨ ∃ x c, m ≤ x ∧ x < m + n ∧ A x = true ∧ (∀ k, m ≤ k → k < x → A k = false) ∧ rFst A m n = nI x ∧ 0 < c ∧ c ≤ n ∧ rCount A m n = nI c
  | 0, _ => Or.inl ⟨fun k a b => by omega, rfl, rfl⟩
  | n + 1, h => by
    rw [rFst, rCount]
    rcases rFst_spec (A := A) hm n (by omega) with ⟨a, b, c⟩ | ⟨x, c, h1, h2, h3, h4, h5, h6, h7, h8⟩
    · cases e : A (m + n)
      · simp only [Bool.false_eq_true, if_false]
        refine Or.inl ⟨fun k h1 h2 => ?_, b, c⟩
        rcases Nat.lt_or_ge k (m + n) with q | q
        · exact a k h1 q
        · rw [show k = m + n by omega]; exact e
      · simp only [if_true, if_pos c]
        exact Or.inr ⟨m + n, 1, by omega, by omega, e, fun k a1 a2 => a k a1 (by omega), rfl, by omega, by omega, by rw [c]; rfl⟩
    · have c0 : ¬ rCount A m n = 0 := by rw [h8]; exact nI_ne0 h6 (by omega)
      cases e : A (m + n)
      · simp only [Bool.false_eq_true, if_false]
        exact Or.inr ⟨x, c, h1, by omega, h3, h4, h5, h6, by omega, h8⟩
      · simp only [if_true, if_neg c0]
        exact Or.inr ⟨x, c + 1, h1, by omega, h3, h4, h5, by omega, by omega, by rw [h8, nI_1]⟩
theorem rFst_first {A : Nat → Bool} {m n : Nat} (hm : m ≤ 1000) (hn : n ≤ 1000) : rFst A m n = rFirst A n m := by
  rcases rFst_spec (A := A) hm n hn with ⟨a, b, c⟩ | ⟨x, c, h1, h2, h3, h4, h5, _⟩ <;> rcases rFirst_spec (A := A) n m with ⟨a', b'⟩ | ⟨y, k1, k2, k3, k4, k5⟩
  · rw [b, b']
  · rw [a y k1 k2] at k3; exact absurd k3 (by decide)
  · rw [a' x h1 h2] at h3; exact absurd h3 (by decide)
  · have : x = y := by
      rcases Nat.lt_trichotomy x y with q | q | q
      · rw [k4 x h1 q] at h3; exact absurd h3 (by decide)
      · exact q
      · rw [h4 y k1 q] at k3; exact absurd k3 (by decide)
    rw [h5, k5, this]
theorem kSum_eq {tl sr : Nat → Int32} : ∀ n, (∀ p, p < n → tl p = sr (10 + p)) → kSum tl n = rSum sr n
  | 0, _ => rfl
  | n + 1, h => by rw [kSum, rSum, h n (by omega), kSum_eq n (fun p hp => h p (by omega))]
theorem kWorst_spec {tl : Nat → Int32} : ∀ n, n ≤ 100 → (kWorst tl n = (0, -9) ∧ ∀ q, q < n → (tl q).toInt ≤ 0) ∨ ∃ x, x < n ∧ kWorst tl n = (tl x, nI x) ∧ 0 < (tl x).toInt ∧ (∀ q, q < n → (tl q).toInt ≤ (tl x).toInt) ∧ (∀ q, q < x → (tl q).toInt < (tl x).toInt)
  | 0, _ => Or.inl ⟨rfl, fun q h => by omega⟩
  | n + 1, h => by
    have e0 : (0 : Int32).toInt = 0 := by decide
    rw [kWorst]
    rcases kWorst_spec (tl := tl) n (by omega) with ⟨a, b⟩ | ⟨x, h1, h2, h3, h4, h5⟩
    · rw [a]
      by_cases c : tl n ≤ 0
      · rw [if_pos c]
        rw [Int32.le_iff_toInt_le, e0] at c
        refine Or.inl ⟨rfl, fun q hq => ?_⟩
        rcases Nat.lt_or_ge q n with z | z
        · exact b q z
        · rw [show q = n by omega]; exact c
      · rw [if_neg c]
        rw [Int32.le_iff_toInt_le, e0] at c
        refine Or.inr ⟨n, by omega, rfl, by omega, fun q hq => ?_, fun q hq => ?_⟩
        · rcases Nat.lt_or_ge q n with z | z
          · have := b q z; omega
          · rw [show q = n by omega]; exact Int.le_refl _
        · have := b q hq; omega
    · rw [h2]
      by_cases c : tl n ≤ tl x
      · rw [if_pos c]
        rw [Int32.le_iff_toInt_le] at c
        refine Or.inr ⟨x, by omega, rfl, h3, fun q hq => ?_, h5⟩
        rcases Nat.lt_or_ge q n with z | z
        · exact h4 q z
        · rw [show q = n by omega]; exact c
      · rw [if_neg c]
        rw [Int32.le_iff_toInt_le] at c
        refine Or.inr ⟨n, by omega, rfl, by omega, fun q hq => ?_, fun q hq => ?_⟩
        · rcases Nat.lt_or_ge q n with z | z
          · have := h4 q z; omega
          · rw [show q = n by omega]; exact Int.le_refl _
        · have := h4 q hq; omega
theorem rWorst_spec {sr : Nat → Int32} {N : Nat} (hN : N ≤ 5) : ∀ i, i ≤ N → (rWorst sr N i = -9 ∧ ∀ q, N - i ≤ q → q < N → (sr (10 + q)).toInt ≤ 0) ∨ ∃ x, N - i ≤ x ∧ x < N ∧ rWorst sr N i = nI x ∧ 0 < (sr (10 + x)).toInt ∧ (∀ q, N - i ≤ q → q < N → (sr (10 + q)).toInt ≤ (sr (10 + x)).toInt) ∧ (∀ q, N - i ≤ q → q < x → (sr (10 + q)).toInt < (sr (10 + x)).toInt)
  | 0, _ => Or.inl ⟨rfl, fun q h h2 => by omega⟩
  | i + 1, h => by
    have e0 : (0 : Int32).toInt = 0 := by decide
    rw [rWorst]
    rcases rWorst_spec (sr := sr) hN i (by omega) with ⟨a, b⟩ | ⟨x, h0, h1, h2, h3, h4, h5⟩
    · rw [a]
      by_cases c : sr (10 + (N - 1 - i)) ≤ 0
      · rw [if_pos c]
        rw [Int32.le_iff_toInt_le, e0] at c
        refine Or.inl ⟨rfl, fun q hq hq2 => ?_⟩
        rcases Nat.lt_or_ge q (N - i) with z | z
        · rw [show q = N - 1 - i by omega]; exact c
        · exact b q z hq2
      · rw [if_neg c, if_pos rfl]
        rw [Int32.le_iff_toInt_le, e0] at c
        refine Or.inr ⟨N - 1 - i, by omega, by omega, rfl, by omega, fun q hq hq2 => ?_, fun q hq hq2 => by omega⟩
        rcases Nat.lt_or_ge q (N - i) with z | z
        · rw [show q = N - 1 - i by omega]; exact Int.le_refl _
        · have := b q z hq2; omega
    · rw [h2, nI_clamp (by omega)]
      by_cases c : sr (10 + (N - 1 - i)) ≤ 0
      · rw [if_pos c]
        rw [Int32.le_iff_toInt_le, e0] at c
        refine Or.inr ⟨x, by omega, h1, rfl, h3, fun q hq hq2 => ?_, fun q hq hq2 => ?_⟩
        · rcases Nat.lt_or_ge q (N - i) with z | z
          · rw [show q = N - 1 - i by omega]; omega
          · exact h4 q z hq2
        · rcases Nat.lt_or_ge q (N - i) with z | z
          · rw [show q = N - 1 - i by omega]; omega
          · exact h5 q z hq2
      · rw [if_neg c, if_neg (nI_m9 (by omega))]
        rw [Int32.le_iff_toInt_le, e0] at c
        by_cases e : sr (10 + (N - 1 - i)) < sr (10 + x)
        · rw [if_pos e]
          rw [Int32.lt_iff_toInt_lt] at e
          refine Or.inr ⟨x, by omega, h1, rfl, h3, fun q hq hq2 => ?_, fun q hq hq2 => ?_⟩
          · rcases Nat.lt_or_ge q (N - i) with z | z
            · rw [show q = N - 1 - i by omega]; omega
            · exact h4 q z hq2
          · rcases Nat.lt_or_ge q (N - i) with z | z
            · rw [show q = N - 1 - i by omega]; omega
            · exact h5 q z hq2
        · rw [if_neg e]
          rw [Int32.lt_iff_toInt_lt] at e
          refine Or.inr ⟨N - 1 - i, by omega, by omega, rfl, by omega, fun q hq hq2 => ?_, fun q hq hq2 => by omega⟩
          rcases Nat.lt_or_ge q (N - i) with z | z
          · rw [show q = N - 1 - i by omega]; exact Int.le_refl _
          · have := h4 q z hq2; omega
theorem worst_eq {tl sr : Nat → Int32} {N : Nat} (hN : N ≤ 5) (h : ∀ p, p < N → tl p = sr (10 + p)) : (kWorst tl N).2 = rWorst sr N N := by
  rcases kWorst_spec (tl := tl) N (by omega) with ⟨a, b⟩ | ⟨x, h1, h2, h3, h4, h5⟩ <;> rcases rWorst_spec (sr := sr) hN N (Nat.le_refl _) with ⟨a', b'⟩ | ⟨y, k0, k1, k2, k3, k4, k5⟩
  · rw [a, a']
  · have := b y k1; rw [h y k1] at this; omega
  · have := b' x (by omega) h1; rw [← h x h1] at this; omega
  · have : x = y := by
      have e1 := h4 y k1
      have e2 := k4 x (by omega) h1
      rw [h y k1] at e1
      rw [← h x h1] at e2
      rcases Nat.lt_trichotomy x y with q | q | q
      · have := k5 x (by omega) q; rw [← h x h1] at this; omega
      · exact q
      · have := h5 y q; rw [h y k1] at this; omega
    rw [h2, k2, this]
theorem p_rings {σ ρ : gSt} {P N D w f u j hd t : Nat} (h : Rel σ ρ P N D w f u j hd t) (a0 : Int32) : kA_rings σ a0 D = mA_rings ρ a0 D N ∧ RelE (kS_rings σ a0 D) (mS_rings ρ a0 D N) := by
  refine ⟨?_, RelE_of (Rel_25 h)⟩
  simp only [kA_rings, mA_rings]
  have k0 : σ 16 0 = ρ 104 15 := h.mo.1.1
  obtain ⟨m0, hm0, em0⟩ := h.mo.2.1
  have g : (¬ a0 < σ 16 0 ∧ a0 < 240) = (mIn a0 (ρ 104 15) 239 = true) := by
    rw [← g_in, k0]
    apply propext
    have e : (a0 < 240) ↔ (a0 ≤ 239) := by
      rw [Int32.le_iff_toInt_le, Int32.lt_iff_toInt_lt, show (240 : Int32).toInt = 240 by decide, show (239 : Int32).toInt = 239 by decide]
      omega
    rw [e]
  simp only [g]
  by_cases c : mIn a0 (ρ 104 15) 239 = true
  · rw [if_pos c, if_pos c]
    obtain ⟨k, _, hk, e, _⟩ := mIn_k (m := m0) (n := 239) em0 rfl (by decide) (by omega) c
    rw [e]
    exact sRung_eq h (by omega)
  · rw [if_neg c, if_neg c]
theorem p_person {σ ρ : gSt} {P N D w f u j hd t : Nat} (h : Rel σ ρ P N D w f u j hd t) (a0 a1 : Int32) : kA_person σ a0 a1 D N = mA_person ρ a0 a1 D N ∧ RelE (kS_person σ a0 a1 D N) (mS_person ρ a0 a1 D N) := by
  constructor
  · simp only [kA_person, mA_person, h.gp]
    by_cases c : mIn a0 0 (ρ 98 1 - 1) = true
    · obtain ⟨p, hp, e, e2⟩ := h.per c
      have hN := h.bd.2.2.1
      obtain ⟨m1, m2, m3⟩ := h.mo.1.2.2.1 p hp
      have k0 : σ 16 0 = ρ 104 15 := h.mo.1.1
      have k1 : σ 17 p = ρ 104 p := m1
      have k2 : σ 18 p = ρ 104 (5 + p) := m2
      have k3 : σ 19 p = ρ 104 (10 + p) := m3
      simp only [c, e2, true_and, if_true, k1, k2, k3, (h.pl.2.2.2.1 p hp).1]
      by_cases c2 : mIn a1 0 5 = true
      · rw [if_pos c2]
        obtain ⟨k, _, hk, e3, e4⟩ := mIn_k (m := 0) (n := 5) rfl rfl (by decide) (by decide) c2
        have : k = 0 ∨ k = 1 ∨ k = 2 ∨ k = 3 ∨ k = 4 ∨ k = 5 := by omega
        rcases this with q | q | q | q | q | q <;> subst q <;> rw [e3]
        · simp only [eq_true (show nI 0 = 0 by decide), eq_false (show ¬ nI 0 = 1 by decide), eq_false (show ¬ nI 0 = 2 by decide), eq_false (show ¬ nI 0 = 3 by decide), eq_false (show ¬ nI 0 = 4 by decide), eq_false (show ¬ nI 0 = 5 by decide), eq_false (show ¬ (3 : Int32) ≤ nI 0 by decide), if_true, if_false, rPl]
        · rw [if_neg (by decide), if_pos (by decide), if_neg (by decide), if_neg (by decide), if_pos (by decide)]
        · rw [if_neg (by decide), if_neg (by decide), if_pos (by decide), if_neg (by decide), if_neg (by decide), if_neg (by decide)]
        · rw [if_neg (by decide), if_neg (by decide), if_neg (by decide), if_pos (by decide), if_pos (by decide), if_pos (by decide)]
        · rw [if_neg (by decide), if_neg (by decide), if_neg (by decide), if_neg (by decide), if_pos (by decide), if_pos (by decide), if_neg (by decide), if_neg (by decide)]
          obtain ⟨m0, hm0, em0⟩ := h.mo.2.1
          rw [k0, em0, e, kBit_tb (by omega)]
          rcases Nat.lt_or_ge m0 240 with z | z
          · rw [sRung_eq h z]
            have z2 : ¬ (240 : Int32) ≤ nI m0 := by rw [show (240 : Int32) = nI 240 from rfl, nI_leI (by omega) (by omega)]; omega
            have tbr := tb_rRings (fm := ρ 102) (lt := ρ 103) (wh := ρ 101) (sr := ρ 104) (fr := ρ 98 4) (wo := ρ 104 16) (mi := nI m0) (D := D) (k := p) N (by omega)
            rw [em0, Int32.sub_self] at tbr
            have tbr' : (tb (mRings ρ (ρ 104 16) (nI m0) D N) p = true) = (mRung ρ (ρ 104 16) (nI p) (nI m0) (rPl (ρ 104) p 0) D = true) := propext (tbr.trans ⟨fun q => q.2, fun q => ⟨hp, q⟩⟩)
            simp only [bI, tbr', z2, not_false_eq_true, true_and]
          · have : m0 = 240 := by omega
            subst this
            rw [sRung_240 h, tb_0, bI_f, if_neg]
            rintro ⟨x, _⟩
            exact x (by decide)
        · rw [if_neg (by decide), if_neg (by decide), if_neg (by decide), if_neg (by decide), if_neg (by decide), if_pos (by decide), if_pos (by decide), if_neg (by decide), if_pos (by decide)]
      · have q : ∀ y : Int32, mIn y 0 5 = true → ¬ a1 = y := fun y hy e => c2 (e ▸ hy)
        rw [if_neg c2, if_neg (q 0 (by decide)), if_neg (q 1 (by decide)), if_neg (q 2 (by decide)), if_neg (q 3 (by decide)), if_neg (q 4 (by decide)), if_neg (q 5 (by decide))]
    · simp only [c, if_false, false_and, Bool.false_eq_true]
  · rw [mS_person]
    split
    · exact RelE_of (Rel_25 h)
    · exact RelE_of h
theorem p_now {σ ρ : gSt} {P N D w f u j hd t mi : Nat} (h : Rel σ ρ P N D w f u j hd t) (hmi : ρ 104 15 = nI mi) (hm2 : mi ≤ 240) (a0 : Int32) : kA_now σ a0 D N mi = mA_now ρ a0 u D N mi ∧ RelE (kS_now σ a0 D N mi) (mS_now ρ a0 u D N mi) := by
  constructor
  · simp only [kA_now, mA_now]
    have k0 : σ 16 0 = ρ 104 15 := h.mo.1.1
    have k1 : σ 16 1 = ρ 104 16 := h.mo.1.2.1
    have hN := h.bd.2.2.1
    have k3 : ∀ p, p < N → σ 19 p = ρ 104 (10 + p) := fun p hp => (h.mo.1.2.2.1 p hp).2.2
    by_cases c2 : mIn a0 0 5 = true
    · rw [if_pos c2]
      obtain ⟨k, _, hk, e3, e4⟩ := mIn_k (m := 0) (n := 5) rfl rfl (by decide) (by decide) c2
      rw [e4]
      have : k = 0 ∨ k = 1 ∨ k = 2 ∨ k = 3 ∨ k = 4 ∨ k = 5 := by omega
      rcases this with q | q | q | q | q | q <;> subst q <;> rw [e3]
      · rw [if_pos (by decide), if_neg (by decide)]; exact k0
      · rw [if_neg (by decide), if_pos (by decide), if_neg (by decide)]; exact k1
      · rw [if_neg (by decide), if_neg (by decide), if_pos (by decide), if_pos (by decide), if_pos (by decide)]; exact kSum_eq N k3
      · rw [if_neg (by decide), if_neg (by decide), if_neg (by decide), if_pos (by decide), if_pos (by decide), if_neg (by decide), if_pos (by decide)]; exact worst_eq hN k3
      · rw [if_neg (by decide), if_neg (by decide), if_neg (by decide), if_neg (by decide), if_pos (by decide), if_pos (by decide), if_neg (by decide), if_neg (by decide), if_pos (by decide)]
        refine rFirst_cg _ _ (fun k a b => ?_)
        have := sDR_0 h (mi := k) (by omega)
        simp only [this]
      · rw [if_neg (by decide), if_neg (by decide), if_neg (by decide), if_neg (by decide), if_neg (by decide), if_pos (by decide), if_pos (by decide), if_neg (by decide), if_neg (by decide), if_neg (by decide)]
        exact h.un.2.2.1
    · have q : ∀ y : Int32, mIn y 0 5 = true → ¬ a0 = y := fun y hy e => c2 (e ▸ hy)
      rw [if_neg c2, if_neg (q 0 (by decide)), if_neg (q 1 (by decide)), if_neg (q 2 (by decide)), if_neg (q 3 (by decide)), if_neg (q 4 (by decide)), if_neg (q 5 (by decide))]
  · rw [mS_now]
    split
    · exact RelE_of (Rel_25 h)
    · exact RelE_of h
theorem p_chord {σ ρ : gSt} {P N D w f u j hd t mi : Nat} (h : Rel σ ρ P N D w f u j hd t) (hmi : ρ 104 15 = nI mi) (hm2 : mi ≤ 240) (a0 a1 : Int32) : kA_chord σ a0 a1 D mi = mA_chord ρ a0 a1 D N mi ∧ RelE (kS_chord σ a0 a1 D mi) (mS_chord ρ a0 a1 D N mi) := by
  constructor
  · simp only [kA_chord, mA_chord, h.gs, is01, rFst_first (show mi ≤ 1000 by omega) (show 240 - mi ≤ 1000 by omega)]
    have e : ∀ k, mi ≤ k → k < mi + (240 - mi) → decide (sRung σ (nI k) D = a0) = decide (mRings ρ (ρ 104 16) (nI k) D N = a0) := by
      intro k a b
      rw [sRung_eq h (by omega)]
    rw [rCount_cg _ e, rFirst_cg _ _ e]
  · rw [mS_chord]
    split
    · exact RelE_of (Rel_25 h)
    · exact RelE_of h
theorem p_tells {σ ρ : gSt} {P N D w f u j hd t : Nat} (h : Rel σ ρ P N D w f u j hd t) (a0 a1 a2 : Int32) : kA_tells σ a0 a1 a2 D = mA_tells ρ a0 a1 a2 D ∧ RelE (kS_tells σ a0 a1 a2 D) (mS_tells ρ a0 a1 a2 D) := by
  constructor
  · simp only [kA_tells, mA_tells, h.gp, h.gl]
    by_cases c : mIn a0 0 (ρ 98 1 - 1) = true ∧ mIn a1 0 (ρ 98 0 - 1) = true ∧ mIn a2 0 (ρ 98 0 - 1) = true
    · rw [if_pos c, if_pos c]
      have hP := h.bd.2.1
      obtain ⟨a, ha, ea, _⟩ := h.pla c.2.1
      obtain ⟨b, hb, eb, _⟩ := h.pla c.2.2
      refine rFirst_cg _ _ (fun k x y => ?_)
      rw [ea, eb, rungAt_eq h (by omega) a0 (by omega), rungAt_eq h (by omega) a0 (by omega)]
    · rw [if_neg c, if_neg c]
  · rw [mS_tells]
    split
    · exact RelE_of (Rel_25 h)
    · exact RelE_of h
theorem kFits_iff {o mn ws : Nat → Int32} {p : Int32} {R : Int32 → Bool} : ∀ n e, kFits o mn ws p R n e = true ↔ ∀ k, e ≤ k → k < e + n → (o k = p → R (mn k) = decide (ws k = 1))
  | 0, e => by simp [kFits]; intro k a b; omega
  | n + 1, e => by
    rw [kFits]
    split
    · rename_i c
      simp only [Bool.false_eq_true, false_iff]
      intro z
      exact c.2 (z e (by omega) (by omega) c.1)
    · rename_i c
      rw [kFits_iff n (e + 1)]
      constructor
      · intro z k a b hk
        rcases Nat.lt_or_ge e k with q | q
        · exact z k q (by omega) hk
        · have : k = e := by omega
          subst this
          rcases Classical.em (R (mn k) = decide (ws k = 1)) with r | r
          · exact r
          · exact absurd ⟨hk, r⟩ c
      · intro z k a b hk
        exact z k (by omega) (by omega) hk
theorem rFits_iff {fm lt wh sr ho ha hs : Nat → Int32} {fr wo p at_ : Int32} {D : Nat} : ∀ n, rFits fm lt wh sr ho ha hs fr wo p at_ D n = true ↔ ∀ k, k < n → (ho k = p → rRung fm lt wh sr fr wo p (ha k) at_ D = decide (hs k = 1))
  | 0 => by simp [rFits]
  | n + 1 => by
    rw [rFits, Bool.and_eq_true, rFits_iff n, Bool.or_eq_true, Bool.not_eq_true', decide_eq_false_iff_not, beq_iff_eq]
    constructor
    · rintro ⟨a, b⟩ k hk e
      rcases Nat.lt_or_ge k n with q | q
      · exact a k q e
      · have : k = n := by omega
        subst this
        rcases b with b | b
        · exact absurd e b
        · exact b
    · intro z
      refine ⟨fun k hk => z k (by omega), ?_⟩
      rcases Classical.em (ho n = p) with q | q
      · exact Or.inr (z n (by omega) q)
      · exact Or.inl q
theorem kPlaces_eq {F : Nat → Bool} {fm lt wh sr ho ha hs : Nat → Int32} {fr wo p : Int32} {D E : Nat} : ∀ n, (∀ k, k < n → F k = rFits fm lt wh sr ho ha hs fr wo p (nI k) D E) → kPlaces F n = rCan fm lt wh sr ho ha hs fr wo p D E n
  | 0, _ => rfl
  | n + 1, h => by
    rw [kPlaces, rCan, kPlaces_eq n (fun k hk => h k (by omega)), h n (by omega)]
    split
    · rfl
    · exact (Int32.or_zero).symm
theorem p_can {σ ρ : gSt} {P N D w f u j hd t : Nat} (h : Rel σ ρ P N D w f u j hd t) (a0 : Int32) : kA_can σ a0 hd D P = mA_can ρ a0 hd D P ∧ RelE (kS_can σ a0 hd D P) (mS_can ρ a0 hd D P) := by
  constructor
  · simp only [kA_can, mA_can, h.gp]
    by_cases c : mIn a0 0 (ρ 98 1 - 1) = true
    · rw [if_pos c, if_pos c]
      have hP := h.bd.2.1
      refine kPlaces_eq P (fun k hk => ?_)
      rw [Bool.eq_iff_iff, sFits, kFits_iff, rFits_iff]
      have key : ∀ e, e < hd → (σ 74 e = a0 → sRungAt σ (nI k) a0 (σ 75 e) D = decide (σ 76 e = 1)) = (ρ 108 e = a0 → rRung (ρ 102) (ρ 103) (ρ 101) (ρ 104) (ρ 98 4) (ρ 104 16) a0 (ρ 109 e) (nI k) D = decide (ρ 110 e = 1)) := by
        intro e he
        obtain ⟨x1, x2, x3, m, hm, em⟩ := h.he.2.2.2 e he
        rw [x1, x2, x3, em, rungAt_eq h hm a0 (by omega)]
      constructor
      · intro z e he
        have := z e (by omega) (by omega)
        rw [key e he] at this; exact this
      · intro z e _ he
        rw [key e (by omega)]
        exact z e (by omega)
    · rw [if_neg c, if_neg c]
  · rw [mS_can]
    split
    · exact RelE_of (Rel_25 h)
    · exact RelE_of h
theorem tb_255 : ∀ k, k < 8 → tb 255 k = true := by decide
theorem miss_eq {σ ρ : gSt} {P N D w f u j hd t : Nat} (h : Rel σ ρ P N D w f u j hd t) {mi : Nat} (hmi : mi < 240) (p hm : Int32) : ∀ n, n ≤ D → kMiss (σ 14) (σ 15) (σ 13) (σ 20) (σ 10 4) (σ 16 1) p (nI mi) hm n = rMiss (ρ 102) (ρ 103) (ρ 101) (ρ 104) (ρ 98 4) p (nI mi) hm D n
  | 0, _ => rfl
  | d + 1, hd => by
    rw [kMiss, rMiss, miss_eq h hmi p hm d (by omega)]
    have hD := h.bd.2.2.2.1
    have key : (σ 20 d = p ∧ ¬ σ 13 d = hm ∧ kDue (σ 14) (σ 15) (σ 10 4) (σ 16 1) (nI mi) d = true) ↔ rRung (ρ 102) (ρ 103) (ρ 101) (ρ 104) (ρ 98 4) ((255 : Int32) &&& (((1 : Int32) <<< (nI d &&& 31)) ^^^ -1) ||| ρ 104 16) p (nI mi) hm D = true := by
      rw [rRung_iff, kDue_on h hmi (by omega), show σ 16 1 = ρ 104 16 from h.mo.1.2.1, show σ 20 d = ρ 104 (17 + d) from h.mo.1.2.2.2 d (by omega), (h.pl.2.2.2.2 d (by omega)).1.1, Bool.and_eq_true, Bool.not_eq_true']
      have e2 : ∀ x (wo : Int32), x < 32 → ((wo >>> (nI x &&& 31)) &&& 1 = 0) = (tb wo x = false) := fun x wo hx => kBit_0 (x := wo) (k := x) hx
      constructor
      · rintro ⟨a, b, c, e⟩
        refine ⟨d, by omega, ?_⟩
        rw [rDue]
        simp only [Bool.and_eq_true, decide_eq_true_eq, e2 d _ (show d < 32 by omega), Bool.not_eq_true', decide_eq_false_iff_not]
        refine ⟨a, ?_, e, b⟩
        rw [tb_or, tb_and, tb_not (by omega), tb_one (by omega), c]; simp
      · rintro ⟨x, hx, r⟩
        rw [rDue] at r
        simp only [Bool.and_eq_true, decide_eq_true_eq, e2 x _ (show x < 32 by omega), Bool.not_eq_true', decide_eq_false_iff_not] at r
        obtain ⟨r1, r2, r3, r4⟩ := r
        rw [tb_or, tb_and, tb_not (by omega), tb_one (by omega), tb_255 x (by omega)] at r2
        by_cases e : x = d
        · subst e
          simp at r2
          exact ⟨r1, r4, r2, r3⟩
        · simp [e] at r2
    by_cases c : σ 20 d = p ∧ ¬ σ 13 d = hm ∧ kDue (σ 14) (σ 15) (σ 10 4) (σ 16 1) (nI mi) d = true
    · rw [if_pos c, if_pos (key.mp c)]
    · rw [if_neg c, if_neg (fun z => c (key.mpr z))]
theorem p_odds {σ ρ : gSt} {P N D w f u j hd t : Nat} (h : Rel σ ρ P N D w f u j hd t) (a0 a1 a2 a3 : Int32) : kA_odds σ a0 a1 a2 a3 D N = mA_odds ρ a0 a1 a2 a3 D N ∧ RelE (kS_odds σ a0 a1 a2 a3 D N) (mS_odds ρ a0 a1 a2 a3 D N) := by
  constructor
  · simp only [kA_odds, mA_odds, h.gp, kIs_240, is01]
    have g : (¬ a2 < 0 ∧ ¬ 10 < a2) = (mIn a2 0 10 = true) := by
      simp only [mIn, Bool.and_eq_true, Bool.not_eq_true', decide_eq_false_iff_not]
    have g2 : (mIn a0 0 (ρ 98 1 - 1) = true ∧ mIn a1 0 239 = true ∧ ¬ a2 < 0 ∧ ¬ 10 < a2 ∧ mIn a3 0 1 = true) = (mIn a0 0 (ρ 98 1 - 1) = true ∧ mIn a1 0 239 = true ∧ mIn a2 0 10 = true ∧ mIn a3 0 1 = true) := by
      rw [← g, and_assoc (a := ¬ a2 < 0)]
    simp only [g2]
    by_cases c : mIn a0 0 (ρ 98 1 - 1) = true ∧ mIn a1 0 239 = true ∧ mIn a2 0 10 = true ∧ mIn a3 0 1 = true
    · rw [if_pos c, if_pos c]
      obtain ⟨p, hp, e, e2⟩ := h.per c.1
      obtain ⟨k, _, hk, e3, _⟩ := mIn_k (m := 0) (n := 239) rfl rfl (by decide) (by decide) c.2.1
      have : sMiss σ a0 a1 (σ 11 a0.toNatClampNeg) D = mMiss ρ a0 a1 (ρ 99 a0.toNatClampNeg) D D := by
        rw [e2, (h.pl.2.2.2.1 p hp).1, e3]
        exact miss_eq h (by omega) a0 _ D (Nat.le_refl _)
      rw [this, Nat.gcd_comm]
    · rw [if_neg c, if_neg c]
  · rw [mS_odds]
    split
    · exact RelE_of (Rel_25 h)
    · exact RelE_of h
theorem p_rate {σ ρ : gSt} {P N D w f u j hd t : Nat} (h : Rel σ ρ P N D w f u j hd t) (a0 a1 : Int32) (τ τ' : Nat → Int64) (ht : τ 83 = τ' 96) : (kA_rate σ a0 a1 D = mA_rate ρ a0 a1 D ∧ kT_rate σ a0 a1 D τ 83 = mT_rate ρ a0 a1 D τ' 96) ∧ RelE (kS_rate σ a0 a1 D) (mS_rate ρ a0 a1 D) := by
  refine ⟨?_, RelE_of h⟩
  simp only [kA_rate, mA_rate, kT_rate, mT_rate, h.gd]
  have g : (¬ a0 < 0 ∧ ¬ 6 ≤ a0 ∧ mIn a1 0 (ρ 98 2 - 1) = true) = (mIn a0 0 5 = true ∧ mIn a1 0 (ρ 98 2 - 1) = true) := by
    rw [← and_assoc]
    congr 1
    rw [← g_in]
    apply propext
    rw [Int32.le_iff_toInt_le, Int32.le_iff_toInt_le, Int32.lt_iff_toInt_lt, show (6 : Int32).toInt = 6 by decide, show (5 : Int32).toInt = 5 by decide]
    omega
  simp only [g]
  by_cases c : mIn a0 0 5 = true ∧ mIn a1 0 (ρ 98 2 - 1) = true
  · simp only [if_pos c]
    obtain ⟨d, hd, e, e2⟩ := h.dut c.2
    obtain ⟨⟨q1, _, q3⟩, _⟩ := h.pl.2.2.2.2 d hd
    have k4 : σ 20 d = ρ 104 (17 + d) := h.mo.1.2.2.2 d hd
    obtain ⟨x, hx, ex⟩ := h.mo.2.2.2.2 d hd
    have k3 : σ 19 x = ρ 104 (10 + x) := (h.mo.1.2.2.1 x hx).2.2
    have hN := h.bd.2.2.1
    rw [e2, q1, q3, k4, ex, nI_clamp (by omega), k3, show σ 16 1 = ρ 104 16 from h.mo.1.2.1]
    obtain ⟨k, _, hk, e3, e4⟩ := mIn_k (m := 0) (n := 5) rfl rfl (by decide) (by decide) c.1
    have i7 : (if kBit (ρ 104 16) a1 = 1 then ρ 103 d - 7 else ρ 103 d) = (ρ 103 d - (if (ρ 104 16 >>> (a1 &&& 31)) &&& 1 = 1 then 7 else 0)) := by
      rw [kBit]
      split
      · rfl
      · exact (Int32.sub_zero _).symm
    rw [i7]
    have : k = 0 ∨ k = 1 ∨ k = 2 ∨ k = 3 ∨ k = 4 ∨ k = 5 := by omega
    rcases this with q | q | q | q | q | q <;> subst q <;> rw [e3]
    · simp only [eq_true (show nI 0 = 0 by decide), eq_false (show ¬ nI 0 = 1 by decide), eq_false (show ¬ nI 0 = 2 by decide), eq_false (show ¬ nI 0 = 3 by decide), eq_false (show ¬ nI 0 = 4 by decide), eq_false (show ¬ nI 0 = 5 by decide), if_true, if_false, kT, va_up, ht, rTraceAdd, true_and]
    · simp only [eq_false (show ¬ nI 1 = 0 by decide), eq_true (show nI 1 = 1 by decide), eq_false (show ¬ nI 1 = 2 by decide), eq_false (show ¬ nI 1 = 3 by decide), eq_false (show ¬ nI 1 = 4 by decide), eq_false (show ¬ nI 1 = 5 by decide), if_true, if_false, kT, va_up, ht, rTraceAdd, true_and]
      rw [Int64.add_assoc]
      rfl
    · simp only [eq_false (show ¬ nI 2 = 0 by decide), eq_false (show ¬ nI 2 = 1 by decide), eq_true (show nI 2 = 2 by decide), eq_false (show ¬ nI 2 = 3 by decide), eq_false (show ¬ nI 2 = 4 by decide), eq_false (show ¬ nI 2 = 5 by decide), if_true, if_false, kT, va_up, ht, rTraceAdd, true_and]
      rw [Int64.add_assoc]
      rfl
    · simp only [eq_false (show ¬ nI 3 = 0 by decide), eq_false (show ¬ nI 3 = 1 by decide), eq_false (show ¬ nI 3 = 2 by decide), eq_true (show nI 3 = 3 by decide), eq_false (show ¬ nI 3 = 4 by decide), eq_false (show ¬ nI 3 = 5 by decide), if_true, if_false, kT, va_up, ht, rTraceAdd, true_and]
      rw [Int64.add_assoc, Int64.add_assoc]
      rfl
    · simp only [eq_false (show ¬ nI 4 = 0 by decide), eq_false (show ¬ nI 4 = 1 by decide), eq_false (show ¬ nI 4 = 2 by decide), eq_false (show ¬ nI 4 = 3 by decide), eq_true (show nI 4 = 4 by decide), eq_false (show ¬ nI 4 = 5 by decide), if_true, if_false, kT, va_up, ht, rTraceAdd, true_and]
      rw [Int64.add_assoc, Int64.add_assoc]
      rfl
    · simp only [eq_false (show ¬ nI 5 = 0 by decide), eq_false (show ¬ nI 5 = 1 by decide), eq_false (show ¬ nI 5 = 2 by decide), eq_false (show ¬ nI 5 = 3 by decide), eq_false (show ¬ nI 5 = 4 by decide), eq_true (show nI 5 = 5 by decide), if_true, if_false, kT, va_up, ht, rTraceAdd, true_and]
      rw [Int64.add_assoc]
      rfl
  · simp only [if_neg c]
    exact ⟨trivial, ht⟩
