/-! ===== silence ===== -/
def cnt (n : Nat) : Nat := (n.testBit 0).toNat + (n.testBit 1).toNat + (n.testBit 2).toNat + (n.testBit 3).toNat + (n.testBit 4).toNat + (n.testBit 5).toNat + (n.testBit 6).toNat + (n.testBit 7).toNat
theorem cnt_ones : ∀ n, n < 256 → mOnes (nI n) 8 = nI (cnt n) := by decide +kernel
theorem cnt_bc {n : Nat} (h : n < 256) : kBC (nI n) = nI (cnt n) := by rw [kBC_ones n h, cnt_ones n h]
theorem cnt_le (n : Nat) : cnt n ≤ 8 := by
  have : ∀ b : Bool, b.toNat ≤ 1 := by decide
  have h0 := this (n.testBit 0); have h1 := this (n.testBit 1); have h2 := this (n.testBit 2); have h3 := this (n.testBit 3)
  have h4 := this (n.testBit 4); have h5 := this (n.testBit 5); have h6 := this (n.testBit 6); have h7 := this (n.testBit 7)
  simp only [cnt]; omega
theorem hi8 {x k : Nat} (h : x < 256) (hk : 8 ≤ k) : x.testBit k = false := Nat.testBit_lt_two_pow (Nat.lt_of_lt_of_le h (show 2 ^ 8 ≤ 2 ^ k from Nat.pow_le_pow_right (by decide) hk))
/-- fewer bits: fewer ones, unless they are the same -/
theorem cnt_sub {x y : Nat} (hx : x < 256) (hy : y < 256) (h : ∀ d, d < 8 → x.testBit d = true → y.testBit d = true) : cnt x ≤ cnt y ∧ (cnt x = cnt y → x = y) := by
  have t : ∀ a b : Bool, (a = true → b = true) → a.toNat ≤ b.toNat ∧ (a.toNat = b.toNat → a = b) := by decide
  have h0 := t _ _ (h 0 (by omega)); have h1 := t _ _ (h 1 (by omega)); have h2 := t _ _ (h 2 (by omega)); have h3 := t _ _ (h 3 (by omega))
  have h4 := t _ _ (h 4 (by omega)); have h5 := t _ _ (h 5 (by omega)); have h6 := t _ _ (h 6 (by omega)); have h7 := t _ _ (h 7 (by omega))
  simp only [cnt]
  refine ⟨by omega, fun e => ?_⟩
  apply Nat.eq_of_testBit_eq
  intro k
  rcases Nat.lt_or_ge k 8 with q | q
  · have : k = 0 ∨ k = 1 ∨ k = 2 ∨ k = 3 ∨ k = 4 ∨ k = 5 ∨ k = 6 ∨ k = 7 := by omega
    rcases this with q | q | q | q | q | q | q | q <;> subst q
    · exact h0.2 (by omega)
    · exact h1.2 (by omega)
    · exact h2.2 (by omega)
    · exact h3.2 (by omega)
    · exact h4.2 (by omega)
    · exact h5.2 (by omega)
    · exact h6.2 (by omega)
    · exact h7.2 (by omega)
  · rw [hi8 hx q, hi8 hy q]
def lexle (b x : Nat) : Prop := cnt b < cnt x ∨ (cnt b = cnt x ∧ b ≤ x)
theorem and0 {x : Nat} {y : Int32} (hx : x < 256) : nI x &&& y = 0 ↔ ∀ d, d < 8 → x.testBit d = true → tb y d = false := by
  rw [← Decidable.not_iff_not, tb_ne0]
  constructor
  · rintro ⟨k, hk, e⟩ z
    rw [tb_and, Bool.and_eq_true, tb_nI hk] at e
    rcases Nat.lt_or_ge k 8 with q | q
    · rw [z k q e.1] at e; exact absurd e.2 (by decide)
    · rw [hi8 hx q] at e; exact absurd e.1 (by decide)
  · intro z
    rcases Classical.em (∃ k, k < 32 ∧ tb (nI x &&& y) k = true) with q | q
    · exact q
    · refine absurd (fun d hd hb => ?_) z
      cases e : tb y d
      · rfl
      · refine absurd ⟨d, by omega, ?_⟩ q
        rw [tb_and, tb_nI (by omega), hb, e]; rfl
theorem tb_kOf {ow : Nat → Int32} {p : Int32} {k : Nat} : ∀ D, D ≤ 32 → (tb (kOf ow p D) k = true ↔ k < D ∧ ow k = p)
  | 0, _ => by simp [kOf, tb_0]
  | D + 1, h => by
    have ih := tb_kOf (ow := ow) (p := p) (k := k) D (by omega)
    rw [kOf]
    split
    · rename_i c
      rw [tb_or, Bool.or_eq_true, ih, tb_one (by omega), decide_eq_true_eq]
      constructor
      · rintro (⟨a, b⟩ | a)
        · exact ⟨by omega, b⟩
        · subst a; exact ⟨by omega, c⟩
      · rintro ⟨a, b⟩
        rcases Nat.lt_or_ge k D with q | q
        · exact Or.inl ⟨q, b⟩
        · exact Or.inr (by omega)
    · rename_i c
      rw [ih]
      constructor
      · rintro ⟨a, b⟩; exact ⟨by omega, b⟩
      · rintro ⟨a, b⟩
        rcases Nat.lt_or_ge k D with q | q
        · exact ⟨q, b⟩
        · have : k = D := by omega
          subst this; exact absurd b c
theorem tb_kOfSet {ow : Nat → Int32} {set : Int32} {D k : Nat} (hD : D ≤ 32) : ∀ N, N ≤ 32 → (tb (kOfSet ow set D N) k = true ↔ ∃ p, p < N ∧ tb set p = true ∧ k < D ∧ ow k = nI p)
  | 0, _ => by simp [kOfSet, tb_0]
  | N + 1, h => by
    have ih := tb_kOfSet (ow := ow) (set := set) (k := k) hD N (by omega)
    rw [kOfSet]
    simp only [kBit_1 (x := set) (k := N) (by omega)]
    split
    · rename_i c
      rw [tb_or, Bool.or_eq_true, ih, tb_kOf D hD]
      constructor
      · rintro (⟨p, a, b⟩ | a)
        · exact ⟨p, by omega, b⟩
        · exact ⟨N, by omega, c, a⟩
      · rintro ⟨p, a, b, e⟩
        rcases Nat.lt_or_ge p N with q | q
        · exact Or.inl ⟨p, q, b, e⟩
        · have : p = N := by omega
          subst this; exact Or.inr e
    · rename_i c
      rw [ih]
      constructor
      · rintro ⟨p, a, b⟩; exact ⟨p, by omega, b⟩
      · rintro ⟨p, a, b, e⟩
        rcases Nat.lt_or_ge p N with q | q
        · exact ⟨p, q, b, e⟩
        · have : p = N := by omega
          subst this; exact absurd b c
/-- all of the set are rung for in minute m, without the duties of x -/
def cov (σ : gSt) (set : Int32) (D m x : Nat) : Prop := ∀ p, p < 32 → tb set p = true → ∃ d, d < D ∧ σ 20 d = nI p ∧ tb (sDR σ (nI m) D) d = true ∧ x.testBit d = false
theorem kSil_cov {σ ρ : gSt} {P N D w f u j hd t : Nat} (h : Rel σ ρ P N D w f u j hd t) {set : Int32} (hs : ∀ p, p < 32 → tb set p = true → p < N) (m x : Nat) : kSil (σ 20) D set (sDR σ (nI m) D &&& kOfSet (σ 20) set D N) (nI x) = true ↔ ¬ cov σ set D m x := by
  have hD := h.bd.2.2.2.1
  have hN := h.bd.2.2.1
  rw [kSil, Bool.not_eq_true', decide_eq_false_iff_not]
  refine not_congr ?_
  constructor
  · intro z p hp hsp
    have : tb (kOwn (σ 20) (sDR σ (nI m) D &&& kOfSet (σ 20) set D N &&& (nI x ^^^ -1)) D &&& set) p = true := by rw [z]; exact hsp
    rw [tb_and, Bool.and_eq_true, tb_kOwn D (by omega) h.ows] at this
    obtain ⟨⟨d, hd, a, b, _⟩, _⟩ := this
    rw [tb_and, tb_and, Bool.and_eq_true, Bool.and_eq_true, tb_not (by omega), tb_nI (by omega), Bool.not_eq_true'] at a
    exact ⟨d, hd, b, a.1.1, a.2⟩
  · intro z
    apply tb_ext
    intro p hp
    rw [tb_and]
    cases e : tb set p
    · rw [Bool.and_false]
    · rw [Bool.and_true, tb_kOwn D (by omega) h.ows]
      obtain ⟨d, hd, a, b, c⟩ := z p hp e
      refine ⟨d, hd, ?_, a, hp⟩
      rw [tb_and, tb_and, Bool.and_eq_true, Bool.and_eq_true, tb_not (by omega), tb_nI (by omega), Bool.not_eq_true']
      exact ⟨⟨b, (tb_kOfSet (by omega) N (by omega)).mpr ⟨p, hs p hp e, e, hd, a⟩⟩, c⟩
theorem mSil_cov {σ ρ : gSt} {P N D w f u j hd t : Nat} (h : Rel σ ρ P N D w f u j hd t) {set : Int32} {m : Nat} (hm : m < 240) (x : Nat) : decide (set &&& (rRings (ρ 102) (ρ 103) (ρ 101) (ρ 104) (ρ 98 4) (ρ 104 16 ||| nI x) (nI m) D N ^^^ -1) = 0) = true ↔ cov σ set D m x := by
  have hD := h.bd.2.2.2.1
  haveI : Decidable (cov σ set D m x) := Classical.propDecidable _
  rw [decide_eq_true_eq, ← Decidable.not_iff_not, tb_ne0]
  have bit : ∀ d, d < D → (tb (ρ 104 16 ||| nI x) d = false ∧ bOn ρ m d = true ∧ bAt ρ m d = false ↔ tb (sDR σ (nI m) D) d = true ∧ x.testBit d = false) := by
    intro d hd
    rw [tb_sDR h hm, tb_or, tb_nI (by omega), Bool.or_eq_false_iff]
    constructor
    · rintro ⟨⟨a, b⟩, c⟩; exact ⟨⟨hd, a, c⟩, b⟩
    · rintro ⟨⟨_, a, c⟩, b⟩; exact ⟨⟨a, b⟩, c⟩
  constructor
  · rintro ⟨p, hp, z⟩ c
    rw [tb_and, Bool.and_eq_true, tb_not hp, Bool.not_eq_true'] at z
    obtain ⟨d, hd, a, b⟩ := c p hp z.1
    have : tb (mRings ρ (ρ 104 16 ||| nI x) (nI m) D N) p = true := (tb_mRings h _ p).mpr ⟨d, hd, (h.mo.1.2.2.2 d hd).symm.trans a, hp, (bit d hd).mpr b⟩
    rw [show tb (rRings (ρ 102) (ρ 103) (ρ 101) (ρ 104) (ρ 98 4) (ρ 104 16 ||| nI x) (nI m) D N) p = true from this] at z
    exact absurd z.2 (by decide)
  · intro z
    rcases Classical.em (∃ k, k < 32 ∧ tb (set &&& (rRings (ρ 102) (ρ 103) (ρ 101) (ρ 104) (ρ 98 4) (ρ 104 16 ||| nI x) (nI m) D N ^^^ -1)) k = true) with q | q
    · exact q
    · refine absurd (fun p hp hsp => ?_) z
      have : tb (mRings ρ (ρ 104 16 ||| nI x) (nI m) D N) p = true := by
        cases e : tb (mRings ρ (ρ 104 16 ||| nI x) (nI m) D N) p
        · refine absurd ⟨p, hp, ?_⟩ q
          rw [tb_and, tb_not hp, hsp, show tb (rRings (ρ 102) (ρ 103) (ρ 101) (ρ 104) (ρ 98 4) (ρ 104 16 ||| nI x) (nI m) D N) p = false from e]; rfl
        · rfl
      obtain ⟨d, hd, a, _, b⟩ := (tb_mRings h _ p).mp this
      exact ⟨d, hd, (h.mo.1.2.2.2 d hd).trans a, (bit d hd).mp b⟩
/-- never all of the set -/
def sil (σ : gSt) (set : Int32) (D mi x : Nat) : Prop := ∀ m, mi ≤ m → m < 240 → ¬ cov σ set D m x
theorem rNone_iff {A : Nat → Bool} : ∀ n m, rNone A n m = true ↔ ∀ k, m ≤ k → k < m + n → A k = false
  | 0, m => by simp [rNone]; intro k a b; omega
  | n + 1, m => by
    rw [rNone]
    cases e : A m
    · simp only [Bool.false_eq_true, if_false]
      rw [rNone_iff n (m + 1)]
      constructor
      · intro z k a b
        rcases Nat.lt_or_ge m k with q | q
        · exact z k (by omega) (by omega)
        · rw [show k = m by omega]; exact e
      · intro z k a b; exact z k (by omega) (by omega)
    · simp only [if_true, Bool.false_eq_true, false_iff]
      intro z
      rw [z m (by omega) (by omega)] at e
      exact absurd e (by decide)
theorem kAll_iff {nt : Nat → Int32} {F : Int32 → Bool} : ∀ n i, kAll nt F n i = true ↔ ∀ k, i ≤ k → k < i + n → F (nt k) = true
  | 0, m => by simp [kAll]; intro k a b; omega
  | n + 1, m => by
    rw [kAll]
    cases e : F (nt m)
    · simp only [Bool.false_eq_true, if_false, false_iff]
      intro z
      rw [z m (by omega) (by omega)] at e
      exact absurd e (by decide)
    · simp only [if_true]
      rw [kAll_iff n (m + 1)]
      constructor
      · intro z k a b
        rcases Nat.lt_or_ge m k with q | q
        · exact z k (by omega) (by omega)
        · rw [show k = m by omega]; exact e
      · intro z k a b; exact z k (by omega) (by omega)
theorem kNote_spec {X : Nat → Int32} {F : Int32 → Bool} {nt0 : Nat → Int32} {mi : Nat} : ∀ i, (∀ k, k < (kNote X F nt0 mi i).2 → ∃ m, mi ≤ m ∧ m < mi + i ∧ (kNote X F nt0 mi i).1 k = X m) ∧ (∀ m, mi ≤ m → m < mi + i → F (X m) = true ∨ ∃ k, k < (kNote X F nt0 mi i).2 ∧ (kNote X F nt0 mi i).1 k = X m)
  | 0 => ⟨fun k h => by simp [kNote] at h, fun m a b => by omega⟩
  | i + 1 => by
    obtain ⟨a, b⟩ := kNote_spec (X := X) (F := F) (nt0 := nt0) (mi := mi) i
    rw [kNote]
    split
    · rename_i c
      refine ⟨fun k hk => ?_, fun m h1 h2 => ?_⟩
      · obtain ⟨m, x, y, z⟩ := a k hk
        exact ⟨m, x, by omega, z⟩
      · rcases Nat.lt_or_ge m (mi + i) with q | q
        · exact b m h1 q
        · have : m = mi + i := by omega
          subst this
          rcases c with c | c
          · rw [Bool.and_eq_true, Bool.not_eq_true', decide_eq_false_iff_not, decide_eq_true_eq] at c
            exact Or.inr ⟨_, by omega, c.2⟩
          · exact Or.inl c
    · rename_i c
      refine ⟨fun k hk => ?_, fun m h1 h2 => ?_⟩
      · simp only at hk ⊢
        by_cases e : k = (kNote X F nt0 mi i).2
        · subst e
          exact ⟨mi + i, by omega, by omega, pk_us⟩
        · obtain ⟨m, x, y, z⟩ := a k (by omega)
          exact ⟨m, x, by omega, by rw [pk_un e]; exact z⟩
      · simp only
        rcases Nat.lt_or_ge m (mi + i) with q | q
        · rcases b m h1 q with r | ⟨k, hk, r⟩
          · exact Or.inl r
          · exact Or.inr ⟨k, by omega, by rw [pk_un (by omega)]; exact r⟩
        · have : m = mi + i := by omega
          subst this
          exact Or.inr ⟨_, Nat.lt_succ_self _, pk_us⟩
