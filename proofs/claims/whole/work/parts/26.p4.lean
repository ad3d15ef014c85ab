/-! ===== who is rung for ===== -/
theorem rRung_iff {fm lt wh ow : Nat → Int32} {fr wo p mi at_ : Int32} : ∀ D, rRung fm lt wh ow fr wo p mi at_ D = true ↔ ∃ d, d < D ∧ rDue fm lt wh ow fr wo p mi at_ d = true
  | 0 => by simp [rRung]
  | D + 1 => by
    rw [rRung, Bool.or_eq_true, rRung_iff D]
    constructor
    · rintro (⟨d, hd, e⟩ | e)
      · exact ⟨d, by omega, e⟩
      · exact ⟨D, by omega, e⟩
    · rintro ⟨d, hd, e⟩
      rcases Nat.lt_or_ge d D with q | q
      · exact Or.inl ⟨d, q, e⟩
      · have : d = D := by omega
        subst this; exact Or.inr e
theorem tb_kDR {fm lt pl ow pw go : Nat → Int32} {fr ex m0 mi : Int32} {k : Nat} : ∀ D, D ≤ 32 → (tb (kDR fm lt pl ow pw go fr ex m0 mi D) k = true ↔ k < D ∧ kDue fm lt fr ex mi k = true ∧ kThere pw go m0 (ow k).toNatClampNeg (pl k) mi = false)
  | 0, _ => by simp [kDR, tb_0]
  | D + 1, h => by
    have ih := tb_kDR (fm := fm) (lt := lt) (pl := pl) (ow := ow) (pw := pw) (go := go) (fr := fr) (ex := ex) (m0 := m0) (mi := mi) (k := k) D (by omega)
    rw [kDR]
    split
    · rename_i c
      rw [tb_or, Bool.or_eq_true, ih, tb_one (by omega), decide_eq_true_eq]
      constructor
      · rintro (⟨a, b⟩ | a)
        · exact ⟨by omega, b⟩
        · subst a; exact ⟨by omega, c⟩
      · rintro ⟨a, b⟩
        rcases Nat.lt_or_ge k D with q | q
        · exact Or.inl ⟨q, b⟩
        · exact Or.inr (by omega)
    · rename_i c
      rw [ih]
      constructor
      · rintro ⟨a, b⟩; exact ⟨by omega, b⟩
      · rintro ⟨a, b⟩
        rcases Nat.lt_or_ge k D with q | q
        · exact ⟨q, b⟩
        · have : k = D := by omega
          subst this; exact absurd b c
theorem tb_kOwn {ow : Nat → Int32} {x : Int32} {k : Nat} : ∀ D, D ≤ 32 → (∀ d, d < D → ∃ w, w < 32 ∧ ow d = nI w) → (tb (kOwn ow x D) k = true ↔ ∃ d, d < D ∧ tb x d = true ∧ ow d = nI k ∧ k < 32)
  | 0, _, _ => by simp [kOwn, tb_0]
  | D + 1, h, hw => by
    have ih := tb_kOwn (ow := ow) (x := x) (k := k) D (by omega) (fun d hd => hw d (by omega))
    obtain ⟨w, hw1, hw2⟩ := hw D (by omega)
    have e : (ow D = nI k ∧ k < 32) ↔ k = w := by
      rw [hw2]
      constructor
      · rintro ⟨a, b⟩; exact ((nI_eq (by omega) (by omega)).mp a).symm
      · intro a; subst a; exact ⟨rfl, hw1⟩
    rw [kOwn]
    simp only [kBit_1 (x := x) (k := D) (by omega)]
    split
    · rename_i c
      rw [tb_or, Bool.or_eq_true, ih, hw2, tb_one hw1, decide_eq_true_eq]
      constructor
      · rintro (⟨d, hd, a⟩ | a)
        · exact ⟨d, by omega, a⟩
        · exact ⟨D, by omega, c, e.mpr a⟩
      · rintro ⟨d, hd, a, b⟩
        rcases Nat.lt_or_ge d D with q | q
        · exact Or.inl ⟨d, q, a, b⟩
        · have : d = D := by omega
          subst this; exact Or.inr (e.mp b)
    · rename_i c
      rw [ih]
      constructor
      · rintro ⟨d, hd, a⟩; exact ⟨d, by omega, a⟩
      · rintro ⟨d, hd, a, b⟩
        rcases Nat.lt_or_ge d D with q | q
        · exact ⟨d, q, a, b⟩
        · have : d = D := by omega
          subst this; exact absurd a c
theorem tb_rRings {fm lt wh sr : Nat → Int32} {fr wo mi : Int32} {D k : Nat} : ∀ N, N ≤ 32 → (tb (rRings fm lt wh sr fr wo mi D N) k = true ↔ k < N ∧ rRung fm lt wh sr fr wo (nI k) mi (rPl sr k (mi - sr 15)) D = true)
  | 0, _ => by simp [rRings, tb_0]
  | N + 1, h => by
    have ih := tb_rRings (fm := fm) (lt := lt) (wh := wh) (sr := sr) (fr := fr) (wo := wo) (mi := mi) (D := D) (k := k) N (by omega)
    rw [rRings, tb_or, Bool.or_eq_true, ih]
    split
    · rename_i c
      rw [tb_one (by omega), decide_eq_true_eq]
      constructor
      · rintro (⟨a, b⟩ | a)
        · exact ⟨by omega, b⟩
        · subst a; exact ⟨by omega, c⟩
      · rintro ⟨a, b⟩
        rcases Nat.lt_or_ge k N with q | q
        · exact Or.inl ⟨q, b⟩
        · exact Or.inr (by omega)
    · rename_i c
      rw [tb_0]
      constructor
      · rintro (⟨a, b⟩ | a)
        · exact ⟨by omega, b⟩
        · exact absurd a (by decide)
      · rintro ⟨a, b⟩
        rcases Nat.lt_or_ge k N with q | q
        · exact Or.inl ⟨q, b⟩
        · have : k = N := by omega
          subst this; exact absurd b c
theorem tb_kDueAt {fm lt pl ow : Nat → Int32} {fr ex p mi : Int32} {k : Nat} : ∀ D, D ≤ 32 → (∀ d, d < D → ∃ a, a < 32 ∧ pl d = nI a) → (tb (kDueAt fm lt pl ow fr ex p mi D) k = true ↔ ∃ d, d < D ∧ (ow d = p ∧ kDue fm lt fr ex mi d = true) ∧ pl d = nI k ∧ k < 32)
  | 0, _, _ => by simp [kDueAt, tb_0]
  | D + 1, h, hw => by
    have ih := tb_kDueAt (fm := fm) (lt := lt) (pl := pl) (ow := ow) (fr := fr) (ex := ex) (p := p) (mi := mi) (k := k) D (by omega) (fun d hd => hw d (by omega))
    obtain ⟨w, hw1, hw2⟩ := hw D (by omega)
    have e : (pl D = nI k ∧ k < 32) ↔ k = w := by
      rw [hw2]
      constructor
      · rintro ⟨a, b⟩; exact ((nI_eq (by omega) (by omega)).mp a).symm
      · intro a; subst a; exact ⟨rfl, hw1⟩
    rw [kDueAt]
    split
    · rename_i c
      rw [tb_or, Bool.or_eq_true, ih, hw2, tb_one hw1, decide_eq_true_eq]
      constructor
      · rintro (⟨d, hd, a⟩ | a)
        · exact ⟨d, by omega, a⟩
        · exact ⟨D, by omega, c, e.mpr a⟩
      · rintro ⟨d, hd, a, b⟩
        rcases Nat.lt_or_ge d D with q | q
        · exact Or.inl ⟨d, q, a, b⟩
        · have : d = D := by omega
          subst this; exact Or.inr (e.mp b)
    · rename_i c
      rw [ih]
      constructor
      · rintro ⟨d, hd, a⟩; exact ⟨d, by omega, a⟩
      · rintro ⟨d, hd, a, b⟩
        rcases Nat.lt_or_ge d D with q | q
        · exact ⟨d, q, a, b⟩
        · have : d = D := by omega
          subst this; exact absurd a c
/-- a duty's bell is to be rung in a minute -/
abbrev bOn (ρ : gSt) (mi d : Nat) : Bool := rOn (ρ 102) (ρ 103) (ρ 98 4) (nI mi) d
theorem kDue_on {σ ρ : gSt} {P N D w f u j hd t : Nat} (h : Rel σ ρ P N D w f u j hd t) {ex : Int32} {mi d : Nat} (hmi : mi < 240) (hd : d < D) : kDue (σ 14) (σ 15) (σ 10 4) ex (nI mi) d = (!tb ex d && bOn ρ mi d) := by
  obtain ⟨⟨_, q2, q3⟩, _, ⟨b, hb, eb⟩, ⟨c, hc, ec⟩⟩ := h.pl.2.2.2.2 d hd
  have hD := h.bd.2.2.2.1
  rw [kDue, bOn, rOn, q2, q3, h.pl.2.1.2.2.2.2, h.pl.2.2.1.2.2.2.2, eb, ec, nI_add b c]
  simp only [kBit_0 (x := ex) (k := d) (by omega)]
  have e : (if nI (b + c) < 240 then nI (b + c) else 240) ≤ nI mi ↔ nI (b + c) ≤ nI mi := by
    rw [show (240 : Int32) = nI 240 from rfl]
    split
    · exact Iff.rfl
    · rename_i z
      rw [nI_ltI (by omega) (by omega)] at z
      rw [nI_leI (by omega) (by omega), nI_leI (by omega) (by omega)]
      omega
  simp only [e]
  cases tb ex d <;> simp
theorem kDue_240 {σ ρ : gSt} {P N D w f u j hd t : Nat} (h : Rel σ ρ P N D w f u j hd t) {ex : Int32} {d : Nat} (hd : d < D) : kDue (σ 14) (σ 15) (σ 10 4) ex (nI 240) d = false := by
  obtain ⟨⟨_, q2, q3⟩, _, ⟨b, hb, eb⟩, ⟨c, hc, ec⟩⟩ := h.pl.2.2.2.2 d hd
  rw [kDue, q2, q3, eb, ec, nI_add b c]
  have e : (if nI (b + c) < 240 then nI (b + c) else 240) ≤ nI 240 := by
    rw [show (240 : Int32) = nI 240 from rfl]
    split
    · rename_i z
      rw [nI_ltI (by omega) (by omega)] at z
      rw [nI_leI (by omega) (by omega)]
      omega
    · exact Int32.le_refl _
  simp [e]
/-- where the duty's owner is then, is where the duty is -/
def bAt (ρ : gSt) (mi d : Nat) : Bool := decide (ρ 101 d = rPl (ρ 104) (ρ 104 (17 + d)).toNatClampNeg (nI mi - ρ 104 15))
theorem m9_ne (a : Nat) (h : a < 2 ^ 30) : ¬ nI a = -9 := nI_m9 h
theorem kThere_at {σ ρ : gSt} {P N D w f u j hd t : Nat} (h : Rel σ ρ P N D w f u j hd t) {mi d : Nat} (hmi : mi ≤ 240) (hd : d < D) : kThere (σ 17) (σ 18) (σ 16 0) (σ 20 d).toNatClampNeg (σ 13 d) (nI mi) = bAt ρ mi d := by
  obtain ⟨⟨q1, _, _⟩, ⟨a, ha, ea⟩, _⟩ := h.pl.2.2.2.2 d hd
  obtain ⟨x, hx, ex⟩ := h.mo.2.2.2.2 d hd
  obtain ⟨m0, hm0, em0⟩ := h.mo.2.1
  have k0 : σ 16 0 = ρ 104 15 := h.mo.1.1
  have k4 : σ 20 d = ρ 104 (17 + d) := h.mo.1.2.2.2 d hd
  have bd := h.bd
  have hN := bd.2.2.1
  have hP := bd.2.1
  obtain ⟨m1, m2, _⟩ := h.mo.1.2.2.1 x hx
  obtain ⟨⟨b, hb, eb⟩, ⟨g, hg, eg⟩⟩ := h.mo.2.2.2.1 x hx
  have m1' : σ 17 x = nI b := m1.trans eb
  have m2' : σ 18 x = nI g := m2.trans eg
  rw [kThere, bAt, k4, ex, nI_clamp (by omega), m1', m2', q1, ea, k0, em0, rPl, eg, eb, nI_add]
  have c1 : (nI mi < nI (m0 + g)) ↔ mi < m0 + g := nI_ltI (by omega) (by omega)
  have c2 : (nI g ≤ nI mi - nI m0) ↔ m0 + g ≤ mi := by
    rw [Int32.le_iff_toInt_le, pk_sub_toInt (by omega) (by omega), nI_toInt (by omega)]
    omega
  by_cases c : mi < m0 + g
  · have c' : ¬ m0 + g ≤ mi := by omega
    rw [if_neg (fun z => c' (c2.mp z))]
    have e1 := c1.mpr c
    simp only [e1, decide_true, Bool.not_true, Bool.and_false]
    exact (decide_eq_false (m9_ne a (by omega))).symm
  · have c' : m0 + g ≤ mi := by omega
    rw [if_pos (c2.mpr c')]
    have e1 : ¬ nI mi < nI (m0 + g) := fun z => c (c1.mp z)
    simp only [e1, decide_false, Bool.not_false, Bool.and_true]
    by_cases e : a = b
    · subst e; rfl
    · rw [decide_eq_false, decide_eq_false]
      · intro z; exact e ((nI_eq (by omega) (by omega)).mp z)
      · intro z; exact e ((nI_eq (by omega) (by omega)).mp z).symm
/-- the duties rung for -/
theorem tb_sDR {σ ρ : gSt} {P N D w f u j hd t : Nat} (h : Rel σ ρ P N D w f u j hd t) {mi : Nat} (hmi : mi < 240) (d : Nat) : tb (sDR σ (nI mi) D) d = true ↔ d < D ∧ tb (ρ 104 16) d = false ∧ bOn ρ mi d = true ∧ bAt ρ mi d = false := by
  have hD := h.bd.2.2.2.1
  rw [sDR, tb_kDR D (by omega), show σ 16 1 = ρ 104 16 from h.mo.1.2.1]
  constructor
  · rintro ⟨a, b, c⟩
    rw [kDue_on h hmi a, Bool.and_eq_true, Bool.not_eq_true'] at b
    rw [kThere_at h (by omega) a] at c
    exact ⟨a, b.1, b.2, c⟩
  · rintro ⟨a, b, c, e⟩
    rw [kDue_on h hmi a, kThere_at h (by omega) a, b, c]
    exact ⟨a, rfl, e⟩
/-- the people rung for, without some duties -/
theorem tb_mRings {σ ρ : gSt} {P N D w f u j hd t : Nat} (h : Rel σ ρ P N D w f u j hd t) {mi : Nat} (wo : Int32) (p : Nat) : tb (mRings ρ wo (nI mi) D N) p = true ↔ ∃ d, d < D ∧ ρ 104 (17 + d) = nI p ∧ p < 32 ∧ tb wo d = false ∧ bOn ρ mi d = true ∧ bAt ρ mi d = false := by
  have hD := h.bd.2.2.2.1
  have hN := h.bd.2.2.1
  rw [mRings, tb_rRings N (by omega), rRung_iff]
  have key : ∀ d, d < D → ρ 104 (17 + d) = nI p → p < N → (rDue (ρ 102) (ρ 103) (ρ 101) (ρ 104) (ρ 98 4) wo (nI p) (nI mi) (rPl (ρ 104) p (nI mi - ρ 104 15)) d = true ↔ tb wo d = false ∧ bOn ρ mi d = true ∧ bAt ρ mi d = false) := by
    intro d hd e hp
    have e2 : ((wo >>> (nI d &&& 31)) &&& 1 = 0) = (tb wo d = false) := kBit_0 (x := wo) (k := d) (by omega)
    rw [rDue, e, bAt, e, nI_clamp (by omega)]
    simp only [decide_true, Bool.true_and, Bool.and_eq_true, decide_eq_true_eq, e2, Bool.not_eq_true']
  constructor
  · rintro ⟨a, d, hd, e⟩
    have e1 : ρ 104 (17 + d) = nI p := by
      rw [rDue, Bool.and_eq_true, decide_eq_true_eq] at e; exact e.1
    exact ⟨d, hd, e1, by omega, (key d hd e1 a).mp e⟩
  · rintro ⟨d, hd, e, hp, r⟩
    obtain ⟨x, hx, ex⟩ := h.mo.2.2.2.2 d hd
    have : x = p := (nI_eq (by omega) (by omega)).mp (ex.symm.trans e)
    subst this
    exact ⟨hx, d, hd, (key d hd e hx).mpr r⟩
theorem Rel.ows {σ ρ : gSt} {P N D w f u j hd t : Nat} (h : Rel σ ρ P N D w f u j hd t) : ∀ d, d < D → ∃ x, x < 32 ∧ σ 20 d = nI x := by
  intro d hd
  obtain ⟨x, hx, ex⟩ := h.mo.2.2.2.2 d hd
  have hN := h.bd.2.2.1
  exact ⟨x, by omega, (h.mo.1.2.2.2 d hd).trans ex⟩
theorem sRung_eq {σ ρ : gSt} {P N D w f u j hd t : Nat} (h : Rel σ ρ P N D w f u j hd t) {mi : Nat} (hmi : mi < 240) : sRung σ (nI mi) D = mRings ρ (ρ 104 16) (nI mi) D N := by
  have hD := h.bd.2.2.2.1
  apply tb_ext
  intro p hp
  rw [Bool.eq_iff_iff, sRung, tb_kOwn D (by omega) h.ows, tb_mRings h]
  constructor
  · rintro ⟨d, hd, a, b, c⟩
    obtain ⟨_, r⟩ := (tb_sDR h hmi d).mp a
    exact ⟨d, hd, (h.mo.1.2.2.2 d hd).symm.trans b, c, r⟩
  · rintro ⟨d, hd, a, b, r⟩
    exact ⟨d, hd, (tb_sDR h hmi d).mpr ⟨hd, r⟩, (h.mo.1.2.2.2 d hd).trans a, b⟩
theorem sRung_240 {σ ρ : gSt} {P N D w f u j hd t : Nat} (h : Rel σ ρ P N D w f u j hd t) : sRung σ (nI 240) D = 0 := by
  have hD := h.bd.2.2.2.1
  apply tb_ext
  intro p hp
  rw [Bool.eq_iff_iff, sRung, tb_kOwn D (by omega) h.ows, tb_0]
  constructor
  · rintro ⟨d, hd, a, b, c⟩
    rw [sDR, tb_kDR D (by omega)] at a
    rw [kDue_240 h hd] at a
    exact absurd a.2.1 (by decide)
  · intro z; exact absurd z (by decide)
/-- some duty is rung for if someone is -/
theorem sDR_0 {σ ρ : gSt} {P N D w f u j hd t : Nat} (h : Rel σ ρ P N D w f u j hd t) {mi : Nat} (hmi : mi < 240) : sDR σ (nI mi) D = 0 ↔ mRings ρ (ρ 104 16) (nI mi) D N = 0 := by
  have hD := h.bd.2.2.2.1
  have hN := h.bd.2.2.1
  rw [← Decidable.not_iff_not, tb_ne0, tb_ne0]
  constructor
  · rintro ⟨d, hd, a⟩
    obtain ⟨hd2, r⟩ := (tb_sDR h hmi d).mp a
    obtain ⟨x, hx, ex⟩ := h.mo.2.2.2.2 d hd2
    exact ⟨x, by omega, (tb_mRings h _ x).mpr ⟨d, hd2, ex, by omega, r⟩⟩
  · rintro ⟨p, hp, a⟩
    obtain ⟨d, hd, _, _, r⟩ := (tb_mRings h _ p).mp a
    exact ⟨d, by omega, (tb_sDR h hmi d).mpr ⟨hd, r⟩⟩
/-- at a place -/
theorem rungAt_eq {σ ρ : gSt} {P N D w f u j hd t : Nat} (h : Rel σ ρ P N D w f u j hd t) {mi : Nat} (hmi : mi < 240) (p : Int32) {a : Nat} (ha : a < 32) : sRungAt σ (nI a) p (nI mi) D = mRung ρ (ρ 104 16) p (nI mi) (nI a) D := by
  have hD := h.bd.2.2.2.1
  have hP := h.bd.2.1
  have e2 : ∀ d, d < 32 → ((ρ 104 16 >>> (nI d &&& 31)) &&& 1 = 0) = (tb (ρ 104 16) d = false) := fun d hd => kBit_0 (x := ρ 104 16) (k := d) hd
  rw [Bool.eq_iff_iff, sRungAt, kRAt, Bool.not_eq_true', decide_eq_false_iff_not, tb_ne0, mRung, rRung_iff]
  have hpl : ∀ d, d < D → ∃ a, a < 32 ∧ σ 13 d = nI a := by
    intro d hd
    obtain ⟨⟨q1, _, _⟩, ⟨a, ha, ea⟩, _⟩ := h.pl.2.2.2.2 d hd
    exact ⟨a, by omega, q1.trans ea⟩
  constructor
  · rintro ⟨k, hk, x⟩
    rw [tb_and, Bool.and_eq_true, tb_not hk, tb_one ha, sDueAt, tb_kDueAt D (by omega) hpl, show σ 16 1 = ρ 104 16 from h.mo.1.2.1] at x
    obtain ⟨⟨d, hd, ⟨a1, a2⟩, a3, _⟩, b⟩ := x
    rw [kDue_on h hmi hd, Bool.and_eq_true, Bool.not_eq_true'] at a2
    refine ⟨d, hd, ?_⟩
    rw [rDue]
    simp only [Bool.and_eq_true, decide_eq_true_eq, e2 d (by omega), Bool.not_eq_true', decide_eq_false_iff_not]
    refine ⟨(h.mo.1.2.2.2 d hd).symm.trans a1, a2.1, a2.2, ?_⟩
    intro z
    rw [← (h.pl.2.2.2.2 d hd).1.1, a3] at z
    have : k = a := (nI_eq (by omega) (by omega)).mp z
    simp [this] at b
  · rintro ⟨d, hd, x⟩
    rw [rDue] at x
    simp only [Bool.and_eq_true, decide_eq_true_eq, e2 d (by omega), Bool.not_eq_true', decide_eq_false_iff_not] at x
    obtain ⟨x1, x2, x3, x4⟩ := x
    obtain ⟨k, hk, ek⟩ := hpl d hd
    refine ⟨k, hk, ?_⟩
    rw [tb_and, Bool.and_eq_true, tb_not hk, tb_one ha, sDueAt, tb_kDueAt D (by omega) hpl, show σ 16 1 = ρ 104 16 from h.mo.1.2.1]
    refine ⟨⟨d, hd, ⟨(h.mo.1.2.2.2 d hd).trans x1, ?_⟩, ek, hk⟩, ?_⟩
    · rw [kDue_on h hmi hd, x2]; exact x3
    · rw [Bool.not_eq_true', decide_eq_false_iff_not]
      intro z
      subst z
      exact x4 ((h.pl.2.2.2.2 d hd).1.1.symm.trans ek)
