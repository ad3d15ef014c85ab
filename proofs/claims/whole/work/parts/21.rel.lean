/-! ===== the class's cells (of σ) and the reference's (of ρ) say the same ===== -/
/-- a row of 25 places tells a moment that may be -/
def mOk (P N D : Nat) (s : Nat → Int32) : Prop :=
  (∃ mi, mi ≤ 240 ∧ s 15 = nI mi) ∧ (∃ ex, ex < 2 ^ D ∧ s 16 = nI ex) ∧
  (∀ p, p < N → (∃ a, a < P ∧ s p = nI a) ∧ (∃ g, g ≤ 45 ∧ s (5 + p) = nI g)) ∧ (∀ d, d < D → ∃ w, w < N ∧ s (17 + d) = nI w)
/-- the class's moment at the cells from i on is the row's -/
def mEq (N D : Nat) (σ : gSt) (i : Nat) (s : Nat → Int32) : Prop :=
  σ i 0 = s 15 ∧ σ i 1 = s 16 ∧ (∀ p, p < N → σ (i + 1) p = s p ∧ σ (i + 2) p = s (5 + p) ∧ σ (i + 3) p = s (10 + p)) ∧ (∀ d, d < D → σ (i + 4) d = s (17 + d))
def mRel (P N D : Nat) (σ : gSt) (i : Nat) (s : Nat → Int32) : Prop := mEq N D σ i s ∧ mOk P N D s
def rBd (P N D w f : Nat) : Prop := 2 ≤ P ∧ P ≤ 6 ∧ N ≤ 5 ∧ D ≤ 8 ∧ 1 ≤ w ∧ w ≤ 9 ∧ f ≤ 9
def rPlan (σ ρ : gSt) (P N D w f : Nat) : Prop :=
  rBd P N D w f ∧
  (σ 10 0 = nI P ∧ σ 10 1 = nI N ∧ σ 10 2 = nI D ∧ σ 10 3 = nI w ∧ σ 10 4 = nI f) ∧
  (ρ 98 0 = nI P ∧ ρ 98 1 = nI N ∧ ρ 98 2 = nI D ∧ ρ 98 3 = nI w ∧ ρ 98 4 = nI f) ∧
  (∀ p, p < N → σ 11 p = ρ 99 p ∧ ∃ a, a < P ∧ ρ 99 p = nI a) ∧
  (∀ d, d < D → (σ 13 d = ρ 101 d ∧ σ 14 d = ρ 102 d ∧ σ 15 d = ρ 103 d) ∧ (∃ a, a < P ∧ ρ 101 d = nI a) ∧ (∃ b, b < 240 ∧ ρ 102 d = nI b) ∧ (∃ c, c ≤ 60 ∧ ρ 103 d = nI c))
def rUndo (σ ρ : gSt) (P N D u j : Nat) : Prop :=
  u ≤ 10 ∧ j < 10 ∧ σ 21 1 = nI u ∧ σ 21 2 = nI j ∧ ρ 96 20 = nI u ∧ ∀ q, q < u → mRel P N D σ (22 + 1 + 5 * ((j + 10 - u + q) % 10)) (fun k => ρ 107 (25 * q + k))
def rImg (σ ρ : gSt) (P N D : Nat) : Prop := ∀ q, q < 2 → σ 95 q = ρ 106 q ∧ (¬ ρ 106 q = 0 → mRel P N D σ (84 + 1 + 5 * q) (fun k => ρ 105 (25 * q + k)))
def rHeard (σ ρ : gSt) (hd : Nat) : Prop :=
  hd ≤ 6 ∧ σ 73 0 = nI hd ∧ ρ 96 24 = nI hd ∧ ∀ e, e < hd → σ 74 e = ρ 108 e ∧ σ 75 e = ρ 109 e ∧ σ 76 e = ρ 110 e ∧ ∃ m, m < 240 ∧ ρ 109 e = nI m
def rText (σ ρ : gSt) (t : Nat) : Prop := t ≤ 200 ∧ σ 1 1 = nI t ∧ ρ 96 3 = nI t ∧ ∀ k, k < t → σ 2 k = ρ 97 k ∧ ∃ c, c ≤ 255 ∧ ρ 97 k = nI c
def rZero (σ : gSt) : Prop := σ 79 240 = 0 ∧ ∀ k, k < 6 → σ 80 (1440 + k) = 0
def Rel (σ ρ : gSt) (P N D w f u j hd t : Nat) : Prop :=
  rPlan σ ρ P N D w f ∧ mRel P N D σ 16 (ρ 104) ∧ rUndo σ ρ P N D u j ∧ rImg σ ρ P N D ∧ rHeard σ ρ hd ∧ rText σ ρ t ∧ rZero σ
def RelE (σ ρ : gSt) : Prop := ∃ P N D w f u j hd t, Rel σ ρ P N D w f u j hd t
/-! what each part reads -/
theorem mRel_cg {P N D i : Nat} {σ σ' : gSt} {s s' : Nat → Int32} (h : mRel P N D σ i s) (h1 : ∀ c, i ≤ c → c ≤ i + 4 → σ' c = σ c) (h2 : ∀ k, k < 25 → s' k = s k) (hN : N ≤ 5) (hD : D ≤ 8) : mRel P N D σ' i s' := by
  obtain ⟨⟨a, b, c, d⟩, e, f, g, k⟩ := h
  refine ⟨⟨?_, ?_, ?_, ?_⟩, ?_, ?_, ?_, ?_⟩
  · rw [h1 i (by omega) (by omega), h2 15 (by omega)]; exact a
  · rw [h1 i (by omega) (by omega), h2 16 (by omega)]; exact b
  · intro p hp
    rw [h1 (i + 1) (by omega) (by omega), h1 (i + 2) (by omega) (by omega), h1 (i + 3) (by omega) (by omega), h2 p (by omega), h2 (5 + p) (by omega), h2 (10 + p) (by omega)]
    exact c p hp
  · intro x hx
    rw [h1 (i + 4) (by omega) (by omega), h2 (17 + x) (by omega)]
    exact d x hx
  · rw [h2 15 (by omega)]; exact e
  · rw [h2 16 (by omega)]; exact f
  · intro p hp
    rw [h2 p (by omega), h2 (5 + p) (by omega)]; exact g p hp
  · intro x hx
    rw [h2 (17 + x) (by omega)]; exact k x hx
theorem rPlan_cg {σ ρ σ' ρ' : gSt} {P N D w f : Nat} (h : rPlan σ ρ P N D w f) (h1 : ∀ c, 10 ≤ c → c ≤ 15 → σ' c = σ c) (h2 : ∀ c, 98 ≤ c → c ≤ 103 → ρ' c = ρ c) : rPlan σ' ρ' P N D w f := by
  simp only [rPlan, h1 10 (by omega) (by omega), h1 11 (by omega) (by omega), h1 13 (by omega) (by omega), h1 14 (by omega) (by omega), h1 15 (by omega) (by omega), h2 98 (by omega) (by omega), h2 99 (by omega) (by omega), h2 101 (by omega) (by omega), h2 102 (by omega) (by omega), h2 103 (by omega) (by omega)]
  exact h
theorem rUndo_cg {σ ρ σ' ρ' : gSt} {P N D u j : Nat} (h : rUndo σ ρ P N D u j) (hN : N ≤ 5) (hD : D ≤ 8) (h1 : ∀ c, 21 ≤ c → c ≤ 72 → σ' c = σ c) (h2 : ρ' 107 = ρ 107) (h3 : ρ' 96 20 = ρ 96 20) : rUndo σ' ρ' P N D u j := by
  obtain ⟨a, b, c, d, e, g⟩ := h
  refine ⟨a, b, ?_, ?_, ?_, ?_⟩
  · rw [h1 21 (by omega) (by omega)]; exact c
  · rw [h1 21 (by omega) (by omega)]; exact d
  · rw [h3]; exact e
  · intro q hq
    exact mRel_cg (g q hq) (fun c x y => h1 c (by omega) (by omega)) (fun k _ => by rw [h2]) hN hD
theorem rImg_cg {σ ρ σ' ρ' : gSt} {P N D : Nat} (h : rImg σ ρ P N D) (hN : N ≤ 5) (hD : D ≤ 8) (h1 : ∀ c, 84 ≤ c → c ≤ 95 → σ' c = σ c) (h2 : ρ' 105 = ρ 105) (h3 : ρ' 106 = ρ 106) : rImg σ' ρ' P N D := by
  intro q hq
  obtain ⟨a, b⟩ := h q hq
  refine ⟨?_, ?_⟩
  · rw [h1 95 (by omega) (by omega), h3]; exact a
  · rw [h3]
    intro x
    exact mRel_cg (b x) (fun c x y => h1 c (by omega) (by omega)) (fun k _ => by rw [h2]) hN hD
theorem rHeard_cg {σ ρ σ' ρ' : gSt} {hd : Nat} (h : rHeard σ ρ hd) (h1 : ∀ c, 73 ≤ c → c ≤ 76 → σ' c = σ c) (h2 : ∀ c, 108 ≤ c → c ≤ 110 → ρ' c = ρ c) (h3 : ρ' 96 24 = ρ 96 24) : rHeard σ' ρ' hd := by
  simp only [rHeard, h1 73 (by omega) (by omega), h1 74 (by omega) (by omega), h1 75 (by omega) (by omega), h1 76 (by omega) (by omega), h2 108 (by omega) (by omega), h2 109 (by omega) (by omega), h2 110 (by omega) (by omega), h3]
  exact h
theorem rText_cg {σ ρ σ' ρ' : gSt} {t : Nat} (h : rText σ ρ t) (h1 : σ' 1 1 = σ 1 1) (h2 : σ' 2 = σ 2) (h3 : ρ' 97 = ρ 97) (h4 : ρ' 96 3 = ρ 96 3) : rText σ' ρ' t := by
  simp only [rText, h1, h2, h3, h4]; exact h
theorem rZero_cg {σ σ' : gSt} (h : rZero σ) (h1 : σ' 79 = σ 79) (h2 : σ' 80 = σ 80) : rZero σ' := by
  simp only [rZero, h1, h2]; exact h
theorem Rel_cg {σ ρ σ' ρ' : gSt} {P N D w f u j hd t : Nat} (h : Rel σ ρ P N D w f u j hd t) (h1 : ∀ c, c < 96 → σ' c = σ c) (h2 : ∀ c, 96 ≤ c → ρ' c = ρ c) : Rel σ' ρ' P N D w f u j hd t := by
  obtain ⟨a, b, c, d, e, g, k⟩ := h
  have hN := a.1.2.2.1
  have hD := a.1.2.2.2.1
  refine ⟨rPlan_cg a (fun c _ _ => h1 c (by omega)) (fun c _ _ => h2 c (by omega)), mRel_cg b (fun c _ _ => h1 c (by omega)) (fun k _ => by rw [h2 104 (by omega)]) hN hD, rUndo_cg c hN hD (fun c _ _ => h1 c (by omega)) (h2 107 (by omega)) (by rw [h2 96 (by omega)]), rImg_cg d hN hD (fun c _ _ => h1 c (by omega)) (h2 105 (by omega)) (h2 106 (by omega)), rHeard_cg e (fun c _ _ => h1 c (by omega)) (fun c _ _ => h2 c (by omega)) (by rw [h2 96 (by omega)]), rText_cg g (by rw [h1 1 (by omega)]) (h1 2 (by omega)) (h2 97 (by omega)) (by rw [h2 96 (by omega)]), rZero_cg k (h1 79 (by omega)) (h1 80 (by omega))⟩
theorem RelE_cg {σ ρ σ' ρ' : gSt} (h : RelE σ ρ) (h1 : ∀ c, c < 96 → σ' c = σ c) (h2 : ∀ c, 96 ≤ c → ρ' c = ρ c) : RelE σ' ρ' := by
  obtain ⟨P, N, D, w, f, u, j, hd, t, h⟩ := h
  exact ⟨P, N, D, w, f, u, j, hd, t, Rel_cg h h1 h2⟩
/-- only 'without' of the reference changes -/
theorem Rel_25 {σ ρ : gSt} {P N D w f u j hd t : Nat} {x : Int32} (h : Rel σ ρ P N D w f u j hd t) : Rel σ (gu ρ 96 25 x) P N D w f u j hd t := by
  obtain ⟨a, b, c, d, e, g, k⟩ := h
  have hN := a.1.2.2.1
  have hD := a.1.2.2.2.1
  have q : ∀ c, c ≠ 96 → gu ρ 96 25 x c = ρ c := fun c hc => gu_ne hc
  have q2 : ∀ j, j ≠ 25 → gu ρ 96 25 x 96 j = ρ 96 j := fun j hj => by rw [gu_at]; simp [hj]
  refine ⟨rPlan_cg a (fun c _ _ => rfl) (fun c _ _ => q c (by omega)), mRel_cg b (fun c _ _ => rfl) (fun k _ => by rw [q 104 (by omega)]) hN hD, rUndo_cg c hN hD (fun c _ _ => rfl) (q 107 (by omega)) (q2 20 (by omega)), rImg_cg d hN hD (fun c _ _ => rfl) (q 105 (by omega)) (q 106 (by omega)), rHeard_cg e (fun c _ _ => rfl) (fun c _ _ => q c (by omega)) (q2 24 (by omega)), rText_cg g rfl rfl (q 97 (by omega)) (q2 3 (by omega)), k⟩
/-! the guards -/
theorem kIs_mIn {x : Int32} {n : Nat} (hn : n < 2 ^ 30) : kIs x (nI n) = mIn x 0 (nI n - 1) := by
  have h1 : (nI n - 1).toInt = (n : Int) - 1 := by
    rw [show (1 : Int32) = nI 1 from rfl, pk_sub_toInt hn (by decide)]; rfl
  have h2 : (nI n).toInt = (n : Int) := nI_toInt (by omega)
  simp only [kIs, mIn]
  have : (nI n ≤ x) = (nI n - 1 < x) := by
    rw [Int32.le_iff_toInt_le, Int32.lt_iff_toInt_lt, h1, h2]
    apply propext; omega
  simp only [this]
theorem kIs_k {x : Int32} (n : Nat) (m : Int32) (hn : n < 2 ^ 30) (hm : nI n - 1 = m) : kIs x (nI n) = mIn x 0 m := by rw [kIs_mIn hn, hm]
theorem kIs_2 {x : Int32} : kIs x 2 = mIn x 0 1 := kIs_k 2 1 (by decide) (by decide)
theorem kIs_240 {x : Int32} : kIs x 240 = mIn x 0 239 := kIs_k 240 239 (by decide) (by decide)
theorem is01 {x : Int32} : (decide (x = 0) || decide (x = 1)) = mIn x 0 1 := by
  have : ∀ y : Int32, y.toInt = 0 ∨ y.toInt = 1 ∨ y.toInt < 0 ∨ 1 < y.toInt := fun y => by omega
  have e0 : (0 : Int32).toInt = 0 := by decide
  have e1 : (1 : Int32).toInt = 1 := by decide
  have a0 : (x = 0) = (x.toInt = 0) := by rw [← Int32.toInt_inj, e0]
  have a1 : (x = 1) = (x.toInt = 1) := by rw [← Int32.toInt_inj, e1]
  have a2 : (x < 0) = (x.toInt < 0) := by rw [Int32.lt_iff_toInt_lt, e0]
  have a3 : (1 < x) = (1 < x.toInt) := by rw [Int32.lt_iff_toInt_lt, e1]
  simp only [mIn, a0, a1, a2, a3]
  rw [Bool.eq_iff_iff]
  simp only [Bool.or_eq_true, Bool.and_eq_true, Bool.not_eq_true', decide_eq_true_eq, decide_eq_false_iff_not]
  omega
theorem mIn_k {x : Int32} {a b : Int32} {m n : Nat} (ha : a = nI m) (hb : b = nI n) (hn : n < 2 ^ 31) (hm : m < 2 ^ 31) (h : mIn x a b = true) : ∃ k, m ≤ k ∧ k ≤ n ∧ x = nI k ∧ x.toNatClampNeg = k := by
  simp only [mIn, Bool.and_eq_true, Bool.not_eq_true', decide_eq_false_iff_not] at h
  obtain ⟨h1, h2⟩ := h
  have h0 : ¬ x < 0 := by
    rw [Int32.lt_iff_toInt_lt] at h1 ⊢
    rw [ha, nI_toInt hm] at h1
    have e0 : (0 : Int32).toInt = 0 := by decide
    omega
  obtain ⟨k, hk, rfl⟩ := nI_of h0
  rw [ha, nI_ltI hk hm] at h1
  rw [hb, nI_ltI hn hk] at h2
  exact ⟨k, by omega, by omega, rfl, nI_clamp hk⟩
