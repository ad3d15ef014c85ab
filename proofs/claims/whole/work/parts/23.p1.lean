/-! ===== the calls one by one: the letters, what was heard, what is looked at ===== -/
theorem g_in {x a b : Int32} : (¬ x < a ∧ x ≤ b) = (mIn x a b = true) := by
  simp only [mIn, Bool.and_eq_true, Bool.not_eq_true', decide_eq_false_iff_not]
  apply propext
  rw [Int32.le_iff_toInt_le, Int32.lt_iff_toInt_lt, Int32.lt_iff_toInt_lt]
  omega
theorem Rel.pl {σ ρ : gSt} {P N D w f u j hd t : Nat} (h : Rel σ ρ P N D w f u j hd t) : rPlan σ ρ P N D w f := h.1
theorem Rel.bd {σ ρ : gSt} {P N D w f u j hd t : Nat} (h : Rel σ ρ P N D w f u j hd t) : rBd P N D w f := h.1.1
theorem Rel.mo {σ ρ : gSt} {P N D w f u j hd t : Nat} (h : Rel σ ρ P N D w f u j hd t) : mRel P N D σ 16 (ρ 104) := h.2.1
theorem Rel.un {σ ρ : gSt} {P N D w f u j hd t : Nat} (h : Rel σ ρ P N D w f u j hd t) : rUndo σ ρ P N D u j := h.2.2.1
theorem Rel.im {σ ρ : gSt} {P N D w f u j hd t : Nat} (h : Rel σ ρ P N D w f u j hd t) : rImg σ ρ P N D := h.2.2.2.1
theorem Rel.he {σ ρ : gSt} {P N D w f u j hd t : Nat} (h : Rel σ ρ P N D w f u j hd t) : rHeard σ ρ hd := h.2.2.2.2.1
theorem Rel.tx {σ ρ : gSt} {P N D w f u j hd t : Nat} (h : Rel σ ρ P N D w f u j hd t) : rText σ ρ t := h.2.2.2.2.2.1
theorem Rel.ze {σ ρ : gSt} {P N D w f u j hd t : Nat} (h : Rel σ ρ P N D w f u j hd t) : rZero σ := h.2.2.2.2.2.2
/-- the letters alone change -/
theorem Rel_text {σ ρ σ' ρ' : gSt} {P N D w f u j hd t t' : Nat} (h : Rel σ ρ P N D w f u j hd t) (h1 : ∀ c, c ≠ 1 → c ≠ 2 → σ' c = σ c) (h2 : ∀ c, c ≠ 96 → c ≠ 97 → ρ' c = ρ c) (h3 : ∀ k, k ≠ 3 → ρ' 96 k = ρ 96 k) (ht : rText σ' ρ' t') : Rel σ' ρ' P N D w f u j hd t' := by
  have hN := h.bd.2.2.1
  have hD := h.bd.2.2.2.1
  exact ⟨rPlan_cg h.pl (fun c _ _ => h1 c (by omega) (by omega)) (fun c _ _ => h2 c (by omega) (by omega)), mRel_cg h.mo (fun c _ _ => h1 c (by omega) (by omega)) (fun k _ => by rw [h2 104 (by omega) (by omega)]) hN hD, rUndo_cg h.un hN hD (fun c _ _ => h1 c (by omega) (by omega)) (h2 107 (by omega) (by omega)) (h3 20 (by omega)), rImg_cg h.im hN hD (fun c _ _ => h1 c (by omega) (by omega)) (h2 105 (by omega) (by omega)) (h2 106 (by omega) (by omega)), rHeard_cg h.he (fun c _ _ => h1 c (by omega) (by omega)) (fun c _ _ => h2 c (by omega) (by omega)) (h3 24 (by omega)), ht, rZero_cg h.ze (h1 79 (by omega) (by omega)) (h1 80 (by omega) (by omega))⟩
theorem Rel_heard {σ ρ σ' ρ' : gSt} {P N D w f u j hd t hd' : Nat} (h : Rel σ ρ P N D w f u j hd t) (h1 : ∀ c, c < 73 ∨ 76 < c → σ' c = σ c) (h2 : ∀ c, c ≠ 96 → c < 108 ∨ 110 < c → ρ' c = ρ c) (h3 : ∀ k, k ≠ 24 → ρ' 96 k = ρ 96 k) (ht : rHeard σ' ρ' hd') : Rel σ' ρ' P N D w f u j hd' t := by
  have hN := h.bd.2.2.1
  have hD := h.bd.2.2.2.1
  exact ⟨rPlan_cg h.pl (fun c _ _ => h1 c (by omega)) (fun c _ _ => h2 c (by omega) (by omega)), mRel_cg h.mo (fun c _ _ => h1 c (by omega)) (fun k _ => by rw [h2 104 (by omega) (by omega)]) hN hD, rUndo_cg h.un hN hD (fun c _ _ => h1 c (by omega)) (h2 107 (by omega) (by omega)) (h3 20 (by omega)), rImg_cg h.im hN hD (fun c _ _ => h1 c (by omega)) (h2 105 (by omega) (by omega)) (h2 106 (by omega) (by omega)), ht, rText_cg h.tx (by rw [h1 1 (by omega)]) (h1 2 (by omega)) (h2 97 (by omega) (by omega)) (h3 3 (by omega)), rZero_cg h.ze (h1 79 (by omega)) (h1 80 (by omega))⟩
theorem p_type {σ ρ : gSt} {P N D w f u j hd t : Nat} (h : Rel σ ρ P N D w f u j hd t) (a0 : Int32) : kA_type σ a0 t = mA_type ρ a0 t ∧ RelE (kS_type σ a0 t) (mS_type ρ a0 t) := by
  simp only [kA_type, mA_type, kS_type, mS_type, g_in]
  have ht := h.tx.1
  by_cases c : mIn a0 0 255 = true
  · by_cases d : t < 200
    · have d2 : ¬ t = 200 := by omega
      simp only [c, d, d2, if_true, if_false, and_self, true_and]
      refine ⟨P, N, D, w, f, u, j, hd, t + 1, Rel_text h ?_ ?_ ?_ ⟨by omega, ?_, ?_, ?_⟩⟩
      · intro c h1 h2; rw [gu_ne h1, gu_ne h2]
      · intro c h1 h2; rw [gu_ne h1, gu_ne h2]
      · intro k hk; rw [gu_at]; simp [hk, gu_ne]
      · rw [gu_at]; simp
      · rw [gu_at]; simp
      · intro k hk
        obtain ⟨n, _, hn, e, _⟩ := mIn_k (m := 0) (n := 255) rfl rfl (by decide) (by decide) c
        simp only [gu_at]
        rcases Nat.lt_or_ge k t with q | q
        · have q2 : ¬ k = t := by omega
          simp [q2]
          exact h.tx.2.2.2 k q
        · have q2 : k = t := by omega
          simp [q2]
          exact ⟨n, hn, e⟩
    · have d2 : t = 200 := by omega
      subst d2
      simp only [c, Nat.lt_irrefl, if_true, if_false, and_false, true_and]
      exact ⟨P, N, D, w, f, u, j, hd, 200, h⟩
  · simp only [c, if_false, false_and, Bool.false_eq_true, true_and]
    exact ⟨P, N, D, w, f, u, j, hd, t, h⟩
theorem p_clear {σ ρ : gSt} {P N D w f u j hd t : Nat} (h : Rel σ ρ P N D w f u j hd t) : kA_clear σ = mA_clear ρ ∧ RelE (kS_clear σ) (mS_clear ρ) := by
  simp only [kA_clear, mA_clear, kS_clear, mS_clear, h.tx.2.1, h.tx.2.2.1, true_and]
  refine ⟨P, N, D, w, f, u, j, hd, 0, Rel_text h ?_ ?_ ?_ ⟨by omega, ?_, ?_, ?_⟩⟩
  · intro c h1 h2; rw [gu_ne h1]
  · intro c h1 h2; rw [gu_ne h1]
  · intro k hk; rw [gu_at]; simp [hk]
  · rw [gu_at]; simp [nI_0]
  · rw [gu_at]; simp [nI_0]
  · intro k hk; omega
theorem p_forget {σ ρ : gSt} {P N D w f u j hd t : Nat} (h : Rel σ ρ P N D w f u j hd t) : kA_forget σ = mA_forget ρ ∧ RelE (kS_forget σ) (mS_forget ρ) := by
  simp only [kA_forget, mA_forget, kS_forget, mS_forget, h.he.2.1, h.he.2.2.1, true_and]
  refine ⟨P, N, D, w, f, u, j, 0, t, Rel_heard h ?_ ?_ ?_ ⟨by omega, ?_, ?_, ?_⟩⟩
  · intro c h1; rw [gu_ne (by omega)]
  · intro c h1 h2; rw [gu_ne h1]
  · intro k hk; rw [gu_at]; simp [hk]
  · rw [gu_at]; simp [nI_0]
  · rw [gu_at]; simp [nI_0]
  · intro k hk; omega
theorem Rel.gp {σ ρ : gSt} {P N D w f u j hd t : Nat} (h : Rel σ ρ P N D w f u j hd t) (a0 : Int32) : kIs a0 (σ 10 1) = mIn a0 0 (ρ 98 1 - 1) := by
  have hN := h.bd.2.2.1
  rw [h.pl.2.1.2.1, h.pl.2.2.1.2.1]; exact kIs_mIn (by omega)
theorem Rel.gd {σ ρ : gSt} {P N D w f u j hd t : Nat} (h : Rel σ ρ P N D w f u j hd t) (a0 : Int32) : kIs a0 (σ 10 2) = mIn a0 0 (ρ 98 2 - 1) := by
  have hN := h.bd.2.2.2.1
  rw [h.pl.2.1.2.2.1, h.pl.2.2.1.2.2.1]; exact kIs_mIn (by omega)
theorem Rel.gl {σ ρ : gSt} {P N D w f u j hd t : Nat} (h : Rel σ ρ P N D w f u j hd t) (a0 : Int32) : kIs a0 (σ 10 0) = mIn a0 0 (ρ 98 0 - 1) := by
  have hN := h.bd.2.1
  rw [h.pl.2.1.1, h.pl.2.2.1.1]; exact kIs_mIn (by omega)
theorem Rel.gs {σ ρ : gSt} {P N D w f u j hd t : Nat} (h : Rel σ ρ P N D w f u j hd t) (a0 : Int32) : kIs a0 (1 <<< (σ 10 1 &&& 31)) = mIn a0 0 ((1 <<< (ρ 98 1 &&& 31)) - 1) := by
  have hN := h.bd.2.2.1
  rw [h.pl.2.1.2.1, h.pl.2.2.1.2.1, sh1 N (by omega)]
  exact kIs_mIn (Nat.lt_of_le_of_lt (Nat.pow_le_pow_right (by decide) hN) (by decide))
/-- he is one of the people -/
theorem Rel.per {σ ρ : gSt} {P N D w f u j hd t : Nat} (h : Rel σ ρ P N D w f u j hd t) {a0 : Int32} (c : mIn a0 0 (ρ 98 1 - 1) = true) : ∃ p, p < N ∧ a0 = nI p ∧ a0.toNatClampNeg = p := by
  have hN := h.bd.2.2.1
  rw [h.pl.2.2.1.2.1] at c
  exact ⟨_, (mIn_nat c (by omega)).2, (mIn_nat c (by omega)).1, rfl⟩
theorem Rel.dut {σ ρ : gSt} {P N D w f u j hd t : Nat} (h : Rel σ ρ P N D w f u j hd t) {a0 : Int32} (c : mIn a0 0 (ρ 98 2 - 1) = true) : ∃ p, p < D ∧ a0 = nI p ∧ a0.toNatClampNeg = p := by
  have hN := h.bd.2.2.2.1
  rw [h.pl.2.2.1.2.2.1] at c
  exact ⟨_, (mIn_nat c (by omega)).2, (mIn_nat c (by omega)).1, rfl⟩
theorem Rel.pla {σ ρ : gSt} {P N D w f u j hd t : Nat} (h : Rel σ ρ P N D w f u j hd t) {a0 : Int32} (c : mIn a0 0 (ρ 98 0 - 1) = true) : ∃ p, p < P ∧ a0 = nI p ∧ a0.toNatClampNeg = p := by
  have hN := h.bd.2.1
  rw [h.pl.2.2.1.1] at c
  exact ⟨_, (mIn_nat c (by omega)).2, (mIn_nat c (by omega)).1, rfl⟩
theorem p_hears {σ ρ : gSt} {P N D w f u j hd t : Nat} (h : Rel σ ρ P N D w f u j hd t) (a0 a1 a2 : Int32) : kA_hears σ a0 a1 a2 hd = mA_hears ρ a0 a1 a2 hd ∧ RelE (kS_hears σ a0 a1 a2 hd) (mS_hears ρ a0 a1 a2 hd) := by
  simp only [kA_hears, mA_hears, kS_hears, mS_hears, h.gp, kIs_240, is01]
  have ht := h.he.1
  by_cases c : mIn a0 0 (ρ 98 1 - 1) = true ∧ mIn a1 0 239 = true ∧ mIn a2 0 1 = true
  · simp only [if_pos c]
    by_cases d : hd < 6
    · have d2 : ¬ hd = 6 := by omega
      simp only [d, d2, if_true, if_false, true_and]
      refine ⟨P, N, D, w, f, u, j, hd + 1, t, Rel_heard h ?_ ?_ ?_ ⟨by omega, ?_, ?_, ?_⟩⟩
      · intro c h1; rw [gu_ne (by omega), gu_ne (by omega), gu_ne (by omega), gu_ne (by omega)]
      · intro c h1 h2; rw [gu_ne (by omega), gu_ne (by omega), gu_ne (by omega), gu_ne (by omega)]
      · intro k hk; rw [gu_at]; simp [hk, gu_ne]
      · rw [gu_at]; simp
      · rw [gu_at]; simp
      · intro k hk
        obtain ⟨n, _, hn, e, _⟩ := mIn_k (m := 0) (n := 239) rfl rfl (by decide) (by decide) c.2.1
        simp only [gu_at]
        rcases Nat.lt_or_ge k hd with q | q
        · have q2 : ¬ k = hd := by omega
          simp [q2]
          exact h.he.2.2.2 k q
        · have q2 : k = hd := by omega
          simp [q2]
          exact ⟨n, by omega, e⟩
    · have d2 : hd = 6 := by omega
      subst d2
      simp only [Nat.lt_irrefl, if_true, if_false, true_and]
      exact ⟨P, N, D, w, f, u, j, 6, t, h⟩
  · simp only [if_neg c, true_and]
    exact ⟨P, N, D, w, f, u, j, hd, t, h⟩
theorem p_count {σ ρ : gSt} {P N D w f u j hd t : Nat} (h : Rel σ ρ P N D w f u j hd t) (a0 : Int32) : kA_count σ a0 = mA_count ρ a0 ∧ RelE (kS_count σ a0) (mS_count ρ a0) := by
  refine ⟨?_, P, N, D, w, f, u, j, hd, t, h⟩
  simp only [kA_count, mA_count, h.tx.2.1, h.tx.2.2.1, h.he.2.1, h.he.2.2.1, h.pl.2.1.1, h.pl.2.1.2.1, h.pl.2.1.2.2.1, h.pl.2.1.2.2.2.1, h.pl.2.1.2.2.2.2]
  by_cases c : mIn a0 0 4 = true
  · obtain ⟨k, _, hk, e, e2⟩ := mIn_k (m := 0) (n := 4) rfl rfl (by decide) (by decide) c
    have : k = 0 ∨ k = 1 ∨ k = 2 ∨ k = 3 ∨ k = 4 := by omega
    rw [if_pos c, e2]
    rcases this with q | q | q | q | q <;> subst q <;> rw [e]
    · simp [nI_0, h.pl.2.2.1.1]
    · rw [if_neg (by decide), if_pos (by decide), h.pl.2.2.1.2.1]
    · rw [if_neg (by decide), if_neg (by decide), if_pos (by decide), h.pl.2.2.1.2.2.1]
    · rw [if_neg (by decide), if_neg (by decide), if_neg (by decide), if_pos (by decide), h.pl.2.2.1.2.2.2.1]
    · rw [if_neg (by decide), if_neg (by decide), if_neg (by decide), if_neg (by decide), if_pos (by decide), h.pl.2.2.1.2.2.2.2]
  · have q : ∀ y : Int32, mIn y 0 4 = true → ¬ a0 = y := fun y hy e => c (e ▸ hy)
    rw [if_neg c, if_neg (q 0 (by decide)), if_neg (q 1 (by decide)), if_neg (q 2 (by decide)), if_neg (q 3 (by decide)), if_neg (q 4 (by decide))]
theorem p_duty {σ ρ : gSt} {P N D w f u j hd t : Nat} (h : Rel σ ρ P N D w f u j hd t) (a0 a1 : Int32) : kA_duty σ a0 a1 D = mA_duty ρ a0 a1 D ∧ RelE (kS_duty σ a0 a1 D) (mS_duty ρ a0 a1 D) := by
  refine ⟨?_, P, N, D, w, f, u, j, hd, t, h⟩
  simp only [kA_duty, mA_duty, h.gd]
  by_cases c : mIn a0 0 (ρ 98 2 - 1) = true
  · obtain ⟨d, hd, e, e2⟩ := h.dut c
    simp only [c, e2, true_and, if_true]
    have m4 := h.mo.1.2.2.2 d hd
    have m1 := h.mo.1.2.1
    obtain ⟨⟨q1, q2, q3⟩, _⟩ := h.pl.2.2.2.2 d hd
    rw [show σ 20 d = ρ 104 (17 + d) from m4, m1, q1, q2, q3]
    by_cases c2 : mIn a1 0 4 = true
    · rw [if_pos c2]
      obtain ⟨k, _, hk, e, e2⟩ := mIn_k (m := 0) (n := 4) rfl rfl (by decide) (by decide) c2
      have : k = 0 ∨ k = 1 ∨ k = 2 ∨ k = 3 ∨ k = 4 := by omega
      rcases this with q | q | q | q | q <;> subst q <;> rw [e]
      · rw [if_pos (by decide), if_pos (by decide)]
      · rw [if_neg (by decide), if_pos (by decide), if_neg (by decide), if_pos (by decide)]
      · rw [if_neg (by decide), if_neg (by decide), if_pos (by decide), if_neg (by decide), if_neg (by decide), if_pos (by decide)]
      · rw [if_neg (by decide), if_neg (by decide), if_neg (by decide), if_pos (by decide), if_neg (by decide), if_neg (by decide), if_neg (by decide), if_pos (by decide)]
      · rw [if_neg (by decide), if_neg (by decide), if_neg (by decide), if_neg (by decide), if_pos (by decide), if_neg (by decide), if_neg (by decide), if_neg (by decide), if_neg (by decide)]
        rfl
    · have q : ∀ y : Int32, mIn y 0 4 = true → ¬ a1 = y := fun y hy e => c2 (e ▸ hy)
      rw [if_neg c2, if_neg (q 0 (by decide)), if_neg (q 1 (by decide)), if_neg (q 2 (by decide)), if_neg (q 3 (by decide)), if_neg (q 4 (by decide))]
  · simp only [c, if_false, false_and, Bool.false_eq_true]
