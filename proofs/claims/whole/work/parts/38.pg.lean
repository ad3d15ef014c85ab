/-! ===== the two readers: a word, a number ===== -/
theorem tWell_cg {σ ρ σ' ρ' : gSt} {t : Nat} (h : tWell σ ρ t) (h1 : ∀ j, 3 ≤ j → j ≤ 7 → σ' 1 j = σ 1 j) (h2 : ∀ j, 4 ≤ j → j ≤ 8 → ρ' 96 j = ρ 96 j) : tWell σ' ρ' t := by
  simp only [tWell, tPos, h1 3 (by omega) (by omega), h1 4 (by omega) (by omega), h1 5 (by omega) (by omega), h1 6 (by omega) (by omega), h1 7 (by omega) (by omega), h2 4 (by omega) (by omega), h2 5 (by omega) (by omega), h2 6 (by omega) (by omega), h2 7 (by omega) (by omega), h2 8 (by omega) (by omega)]
  exact h
theorem tCom_cg {σ ρ σ' ρ' : gSt} {t : Nat} (h : tCom σ ρ t) (h1 : σ' 1 1 = σ 1 1) (h2 : σ' 2 = σ 2) (h3 : ρ' 96 3 = ρ 96 3) (h4 : ρ' 97 = ρ 97) : tCom σ' ρ' t := by
  simp only [tCom, h1, h2, h3, h4]; exact h
theorem tBad_cg {σ ρ σ' ρ' : gSt} (h : tBad σ ρ) (h1 : σ' 1 3 = σ 1 3) (h2 : ρ' 96 8 = ρ 96 8) : tBad σ' ρ' := by
  simp only [tBad, h1, h2]; exact h
/-- only the drafts change -/
theorem tRel_cg {σ ρ σ' ρ' : gSt} {t : Nat} (h : tRel σ ρ t) (h1 : ∀ j, j ≤ 7 → σ' 1 j = σ 1 j) (h2 : σ' 2 = σ 2) (h3 : ∀ j, 3 ≤ j → j ≤ 8 → ρ' 96 j = ρ 96 j) (h4 : ρ' 97 = ρ 97) : tRel σ' ρ' t :=
  ⟨tCom_cg h.1 (h1 1 (by omega)) h2 (h3 3 (by omega) (by omega)) h4, h.2.imp (fun q => tWell_cg q (fun j _ b => h1 j b) (fun j a b => h3 j (by omega) b)) (fun q => tBad_cg q (h1 3 (by omega)) (h3 8 (by omega) (by omega)))⟩
theorem tWell.n {σ ρ : gSt} {t : Nat} (h : tWell σ ρ t) : σ 1 3 = -9 ∧ ρ 96 8 < 0 := ⟨h.1, by rw [h.2.1]; decide⟩
theorem tBad.n {σ ρ : gSt} (h : tBad σ ρ) : ¬ σ 1 3 = -9 ∧ ¬ ρ 96 8 < 0 := by
  obtain ⟨s, h1, h2, h3⟩ := h
  exact ⟨by rw [h2]; exact nI_m9 (by omega), by rw [h3]; exact nI_pos (by omega)⟩
theorem tRel.well {σ ρ : gSt} {t : Nat} (h : tRel σ ρ t) (h1 : σ 1 3 = -9) : tWell σ ρ t := by
  rcases h.2 with q | q
  · exact q
  · exact absurd h1 q.n.1
theorem tRel.wellm {σ ρ : gSt} {t : Nat} (h : tRel σ ρ t) (h1 : ρ 96 8 < 0) : tWell σ ρ t := by
  rcases h.2 with q | q
  · exact q
  · exact absurd h1 q.n.2
theorem tRel.bad {σ ρ : gSt} {t : Nat} (h : tRel σ ρ t) (h1 : ¬ σ 1 3 = -9) : tBad σ ρ := by
  rcases h.2 with q | q
  · exact absurd q.n.1 h1
  · exact q
theorem tRel.badm {σ ρ : gSt} {t : Nat} (h : tRel σ ρ t) (h1 : ¬ ρ 96 8 < 0) : tBad σ ρ := by
  rcases h.2 with q | q
  · exact absurd q.n.2 h1
  · exact q
theorem kRef_o {σ : gSt} {j : Nat} (h : j ≠ 3) : kRefS σ 1 j = σ 1 j := by
  unfold kRefS; split
  · rw [gu_at, if_neg (fun z => h z.2)]
  · rfl
theorem kWord_o {σ : gSt} {t j : Nat} {b : Bool} (h3 : j ≠ 3) (h4 : j ≠ 7) (h5 : j ≠ 4) (h6 : j ≠ 5) (h7 : j ≠ 6) : kWordS σ t b 1 j = σ 1 j := by
  unfold kWordS; split
  · exact kadv_o h4 h5 h6 h7
  · exact kRef_o h3
theorem kNum_o {σ : gSt} {t j : Nat} {a b : Int32} (h3 : j ≠ 3) (h4 : j ≠ 7) (h5 : j ≠ 4) (h6 : j ≠ 5) (h7 : j ≠ 6) : kNumS σ t a b 1 j = σ 1 j := by
  unfold kNumS; split
  · split
    · exact kadv_o h4 h5 h6 h7
    · exact kRef_o h3
  · rfl
theorem mTake_o {ρ : gSt} {t j : Nat} {b : Bool} (h3 : j ≠ 8) (h4 : j ≠ 4) (h5 : j ≠ 5) (h6 : j ≠ 6) (h7 : j ≠ 7) : mTakeS ρ t b 96 j = ρ 96 j := by
  unfold mTakeS; split
  · split
    · exact adv_o h4 h5 h6 h7
    · rw [gu_at, if_neg (fun z => h3 z.2)]
  · rfl
theorem refuse_rel {σ ρ : gSt} {t : Nat} (hc : tCom σ ρ t) (h : tWell σ ρ t) : tCom (kRefS σ) (gu ρ 96 8 (ρ 96 6)) t ∧ tBad (kRefS σ) (gu ρ 96 8 (ρ 96 6)) := by
  refine ⟨tCom_cg hc (kRef_o (by decide)) (kRefS_ne (by decide)) (by rw [gu_at, if_neg (by decide)]) (gu_ne (by decide)), ?_⟩
  obtain ⟨h1, h2, h3, ⟨s, s1, s2, s3⟩, h5⟩ := h
  refine ⟨s, Nat.le_trans s1 hc.1, ?_, ?_⟩
  · rw [kRefS, if_pos h1, gu_at, if_pos ⟨rfl, rfl⟩, s2]
  · rw [gu_at, if_pos ⟨rfl, rfl⟩, s3]
/-- both take a token (or refuse it) -/
theorem word_rel {σ ρ : gSt} {t : Nat} {b b' : Bool} (h : tRel σ ρ t) (hb : tWell σ ρ t → b = b') : tRel (kWordS σ t b) (mTakeS ρ t b') t ∧ (kWordS σ t b 1 3 = -9 → tWell σ ρ t ∧ b = true) := by
  have hc := h.1
  rcases h.2 with q | q
  · have e := hb q
    subst e
    unfold kWordS mTakeS
    rw [if_pos q.n.2]
    cases b
    · rw [if_neg (by decide), if_neg (by decide)]
      obtain ⟨r1, r2⟩ := refuse_rel hc q
      exact ⟨⟨r1, Or.inr r2⟩, fun z => absurd z r2.n.1⟩
    · rw [if_pos rfl, if_pos rfl]
      exact ⟨⟨tCom_kadv (tCom_madv hc), Or.inl (adv_rel hc q.2.2.1 q.1 q.2.1)⟩, fun _ => ⟨q, rfl⟩⟩
  · have e1 : mTakeS ρ t b' = ρ := by rw [mTakeS, if_neg q.n.2]
    have e2 : kWordS σ t b 1 3 = σ 1 3 := by
      unfold kWordS; split
      · exact kadv_o (by decide) (by decide) (by decide) (by decide)
      · rw [kRefS, if_neg q.n.1]
    rw [e1]
    refine ⟨⟨tCom_cg hc (kWord_o (by decide) (by decide) (by decide) (by decide) (by decide)) (kWordS_ne (by decide)) rfl rfl, Or.inr (tBad_cg q e2 rfl)⟩, fun z => ?_⟩
    rw [e2] at z
    exact absurd z q.n.1
theorem mIsL_ne {k x : Int32} (h : mIsL k = true) (hx : mIsL x = false) : ¬ k = x := by
  intro e
  rw [e, hx] at h
  exact absurd h (by decide)
theorem numOk_rel {σ ρ : gSt} {t : Nat} {a b : Int32} (h : tWell σ ρ t) : kNumOk σ a b = mNumOk ρ a b := by
  unfold kNumOk mNumOk mIn
  rw [le_nlt]
  rcases h.2.2.2.2 with q | q | q | q | q
  · rw [q.1, q.2, decide_eq_false (show ¬ ((-1 : Int32) = -2) by decide), decide_eq_false (show ¬ ((0 : Int32) = 2) by decide), Bool.false_and, Bool.false_and]
  · rw [q.1, q.2.1, q.2.2, decide_eq_true (show (-2 : Int32) = -2 from rfl), decide_eq_true (show (2 : Int32) = 2 from rfl)]
  · rw [q.1, q.2, decide_eq_false (show ¬ ((-3 : Int32) = -2) by decide), decide_eq_false (show ¬ ((4 : Int32) = 2) by decide), Bool.false_and, Bool.false_and]
  · rw [q.1, q.2, decide_eq_false (show ¬ ((59 : Int32) = -2) by decide), decide_eq_false (show ¬ ((3 : Int32) = 2) by decide), Bool.false_and, Bool.false_and]
  · have : ¬ σ 1 4 = -2 := mIsL_ne q.1 (by decide)
    rw [q.2.1, decide_eq_false this, decide_eq_false (show ¬ ((1 : Int32) = 2) by decide), Bool.false_and, Bool.false_and]
/-- both take a number (or refuse it) -/
theorem num_rel {σ ρ : gSt} {t : Nat} {a b : Int32} (h : tRel σ ρ t) : tRel (kNumS σ t a b) (mNumS ρ t a b) t ∧ (kNumS σ t a b 1 3 = -9 → tWell σ ρ t ∧ kNumR σ a b = mNumR ρ a b ∧ mIn (mNumR ρ a b) a b = true) := by
  rcases h.2 with q | q
  · have e := numOk_rel (a := a) (b := b) q
    have e1 : kNumS σ t a b = kWordS σ t (kNumOk σ a b) := by
      rw [kNumS, if_pos q.1]; rfl
    obtain ⟨r1, r2⟩ := word_rel (b := kNumOk σ a b) (b' := mNumOk ρ a b) h (fun _ => e)
    rw [e1]
    refine ⟨r1, fun z => ?_⟩
    obtain ⟨-, z2⟩ := r2 z
    have z3 : mNumOk ρ a b = true := by rw [← e]; exact z2
    have z4 := z3
    unfold mNumOk at z4
    rw [Bool.and_eq_true_iff] at z4
    have z5 : ρ 96 5 = 2 := of_decide_eq_true z4.1
    refine ⟨q, ?_, ?_⟩
    · rw [kNumR, if_pos q.1, if_pos z2, mNumR, mTakeR, if_pos q.n.2, if_pos z3]
      rcases q.2.2.2.2 with y | y | y | y | y
      · rw [y.2] at z5; exact absurd z5 (by decide)
      · exact y.2.2
      · rw [y.2] at z5; exact absurd z5 (by decide)
      · rw [y.2] at z5; exact absurd z5 (by decide)
      · rw [y.2.1] at z5; exact absurd z5 (by decide)
    · rw [mNumR, mTakeR, if_pos q.n.2, if_pos z3]
      exact z4.2
  · have e1 : mNumS ρ t a b = ρ := by rw [mNumS, mTakeS, if_neg q.n.2]
    have e2 : kNumS σ t a b = σ := by rw [kNumS, if_neg q.n.1]
    rw [e1, e2]
    exact ⟨h, fun z => absurd z q.n.1⟩
/-- the two drafts -/
def tDr (σ ρ : gSt) (P N D w f i : Nat) : Prop :=
  rBd P N D w f ∧ (i = 0 → N = 0 ∧ D = 0) ∧
  (σ 3 0 = nI P ∧ σ 3 1 = nI N ∧ σ 3 2 = nI D ∧ σ 3 3 = nI w ∧ σ 3 4 = nI f) ∧
  (ρ 98 5 = nI P ∧ ρ 98 6 = nI N ∧ ρ 98 7 = nI D ∧ ρ 98 8 = nI w ∧ ρ 98 9 = nI f) ∧
  (∃ a b, a < 2 ∧ b < 2 ∧ σ 1 8 = nI a ∧ σ 1 9 = nI b ∧ ρ 96 10 = nI (a + 2 * b)) ∧
  (∀ p, p < N → σ 4 p = ρ 99 (5 + p) ∧ ∃ a, a < P ∧ ρ 99 (5 + p) = nI a) ∧
  (∀ d, d < D → (σ 5 d = ρ 100 d ∧ σ 6 d = ρ 101 (8 + d) ∧ σ 7 d = ρ 102 (8 + d) ∧ σ 8 d = ρ 103 (8 + d)) ∧ (∃ a, a < N ∧ ρ 100 d = nI a) ∧ (∃ a, a < P ∧ ρ 101 (8 + d) = nI a) ∧ (∃ b, b < 240 ∧ ρ 102 (8 + d) = nI b) ∧ (∃ c, c ≤ 60 ∧ ρ 103 (8 + d) = nI c))
theorem tDr_cg {σ ρ σ' ρ' : gSt} {P N D w f i : Nat} (h : tDr σ ρ P N D w f i) (h1 : ∀ c, 3 ≤ c → c ≤ 8 → σ' c = σ c) (h2 : σ' 1 8 = σ 1 8) (h3 : σ' 1 9 = σ 1 9) (h4 : ∀ c, 98 ≤ c → c ≤ 103 → ρ' c = ρ c) (h5 : ρ' 96 10 = ρ 96 10) : tDr σ' ρ' P N D w f i := by
  simp only [tDr, h1 3 (by omega) (by omega), h1 4 (by omega) (by omega), h1 5 (by omega) (by omega), h1 6 (by omega) (by omega), h1 7 (by omega) (by omega), h1 8 (by omega) (by omega), h2, h3, h4 98 (by omega) (by omega), h4 99 (by omega) (by omega), h4 100 (by omega) (by omega), h4 101 (by omega) (by omega), h4 102 (by omega) (by omega), h4 103 (by omega) (by omega), h5]
  exact h
theorem tDr_word {σ ρ : gSt} {P N D w f i t : Nat} {b b' : Bool} (h : tDr σ ρ P N D w f i) : tDr (kWordS σ t b) (mTakeS ρ t b') P N D w f i :=
  tDr_cg h (fun c _ _ => kWordS_ne (by omega)) (kWord_o (by decide) (by decide) (by decide) (by decide) (by decide)) (kWord_o (by decide) (by decide) (by decide) (by decide) (by decide)) (fun c _ _ => mTakeS_ne (by omega)) (mTake_o (by decide) (by decide) (by decide) (by decide) (by decide))
theorem tDr_num {σ ρ : gSt} {P N D w f i t : Nat} {a b : Int32} (h : tDr σ ρ P N D w f i) : tDr (kNumS σ t a b) (mNumS ρ t a b) P N D w f i :=
  tDr_cg h (fun c _ _ => kNumS_ne (by omega)) (kNum_o (by decide) (by decide) (by decide) (by decide) (by decide)) (kNum_o (by decide) (by decide) (by decide) (by decide) (by decide)) (fun c _ _ => mNumS_ne (by omega)) (mTake_o (by decide) (by decide) (by decide) (by decide) (by decide))
