/-! ===== the two readers: items, the loop ===== -/
theorem mIsL_or {k : Int32} (h : mIsL k = true) : k = 119 ∨ k = 112 ∨ k = 100 ∨ k = 103 ∨ k = 102 := by
  simpa [mIsL, or_assoc] using h
theorem ref_out {σ ρ : gSt} {t i j : Nat} (h : tRel σ ρ t) (h5 : ¬ ρ 96 5 = 1) : tOut (kRefS σ) (mS2 ρ t i) t j := by
  have hm : mB1 ρ i = false := by rw [mB1, decide_eq_false h5, Bool.false_and]
  obtain ⟨r1, r2⟩ := word_rel (b := false) (b' := mB1 ρ i) h (fun _ => hm.symm)
  have c : ¬ kWordS σ t false 1 3 = -9 := fun z => absurd (r2 z).2 (by decide)
  rw [mS2_bad (r1.bad c).n.2]
  exact tOut_bad r1 c rfl rfl rfl
theorem kI1_o {σ : gSt} {t : Nat} {b : Bool} (h1 : ¬ σ 1 4 = 100) (h2 : ¬ σ 1 4 = 102) (h3 : ¬ σ 1 4 = 103) (h4 : ¬ σ 1 4 = 112) (h5 : ¬ σ 1 4 = 119) : kI1 σ t b = kRefS σ := by
  rw [kI1, if_neg h1, if_neg h2, if_neg h3, if_neg h4, if_neg h5]
theorem i1_rel {σ ρ : gSt} {P N D w f i t : Nat} (h : tRel σ ρ t) (q : tWell σ ρ t) (hd : tDr σ ρ P N D w f i) (hi : i < 2 ^ 31) : tOut (kI1 σ t (decide (nI i = 0))) (mS2 ρ t i) t (i + 1) := by
  rcases q.2.2.2.2 with y | y | y | y | y
  · rw [kI1_o (by rw [y.1]; decide) (by rw [y.1]; decide) (by rw [y.1]; decide) (by rw [y.1]; decide) (by rw [y.1]; decide)]
    exact ref_out h (by rw [y.2]; decide)
  · rw [kI1_o (by rw [y.1]; decide) (by rw [y.1]; decide) (by rw [y.1]; decide) (by rw [y.1]; decide) (by rw [y.1]; decide)]
    exact ref_out h (by rw [y.2.1]; decide)
  · rw [kI1_o (by rw [y.1]; decide) (by rw [y.1]; decide) (by rw [y.1]; decide) (by rw [y.1]; decide) (by rw [y.1]; decide)]
    exact ref_out h (by rw [y.2]; decide)
  · rw [kI1_o (by rw [y.1]; decide) (by rw [y.1]; decide) (by rw [y.1]; decide) (by rw [y.1]; decide) (by rw [y.1]; decide)]
    exact ref_out h (by rw [y.2]; decide)
  · obtain ⟨y1, y2, y3⟩ := y
    rcases mIsL_or y1 with e | e | e | e | e
    · rw [kI1, e, if_neg (by decide), if_neg (by decide), if_neg (by decide), if_neg (by decide), if_pos rfl]
      exact it_places h q hd hi y2 (y3.trans e)
    · rw [kI1, e, if_neg (by decide), if_neg (by decide), if_neg (by decide), if_pos rfl]
      exact it_person h q hd y2 (y3.trans e)
    · rw [kI1, e, if_pos rfl]
      exact it_duty h q hd y2 (y3.trans e)
    · rw [kI1, e, if_neg (by decide), if_neg (by decide), if_pos rfl]
      exact it_walk h q hd y2 (y3.trans e)
    · rw [kI1, e, if_neg (by decide), if_pos rfl]
      exact it_free h q hd y2 (y3.trans e)
theorem tok_59 {k n r v : Int32} (h : tokR k n r v) : decide (k = 59) = decide (r = 3) := by
  rcases h with y | y | y | y | y
  · rw [y.1, y.2]; decide
  · rw [y.1, y.2.1]; decide
  · rw [y.1, y.2]; decide
  · rw [y.1, y.2]; decide
  · rw [y.2.1, decide_eq_false (mIsL_ne y.1 (by decide))]; decide
theorem tok_end {k n r v : Int32} (h : tokR k n r v) : k = -1 ↔ r = 0 := by
  rcases h with y | y | y | y | y
  · rw [y.1, y.2]; decide
  · rw [y.1, y.2.1]; decide
  · rw [y.1, y.2]; decide
  · rw [y.1, y.2]; decide
  · rw [y.2.1]
    have : ¬ k = -1 := mIsL_ne y.1 (by decide)
    exact ⟨fun z => absurd z this, fun z => absurd z (by decide)⟩
theorem kItem_word {σ : gSt} {t : Nat} {b : Bool} : kItemS σ t b = kWordS (kI1 σ t b) t (decide (kI1 σ t b 1 4 = 59)) := by
  rw [kItemS, kWordS]
  by_cases c : kI1 σ t b 1 4 = 59
  · rw [if_pos c, if_pos (decide_eq_true c)]
  · rw [if_neg c, if_neg (by simpa using c)]
theorem item_rel {σ ρ : gSt} {P N D w f i t : Nat} (h : tRel σ ρ t) (q : tWell σ ρ t) (hd : tDr σ ρ P N D w f i) (hi : i < 2 ^ 31) : tOut (kItemS σ t (decide (nI i = 0))) (mStep ρ t i) t (i + 1) := by
  obtain ⟨r, d⟩ := i1_rel h q hd hi
  rw [kItem_word, mStep]
  obtain ⟨r1, r2⟩ := word_rel (b := decide (kI1 σ t (decide (nI i = 0)) 1 4 = 59)) (b' := decide (mS2 ρ t i 96 5 = 3)) r (fun z => tok_59 z.2.2.2.2)
  refine ⟨r1, fun z => ?_⟩
  obtain ⟨P', N', D', w', f', e⟩ := d (r2 z).1.1
  exact ⟨P', N', D', w', f', tDr_word e⟩
theorem loop_rel {t : Nat} : ∀ (m a b : Nat) (σ ρ : gSt) (i : Nat), tOut σ ρ t i → pOk ρ t → plOk ρ → mu ρ t ≤ m → m ≤ a → m ≤ b → i + m < 2 ^ 31 →
    tOut (kReadL t a σ i).1 (mTownL t b ρ i).1 t (kReadL t a σ i).2 ∧ (kReadL t a σ i).2 = (mTownL t b ρ i).2 := by
  intro m
  induction m with
  | zero =>
    intro a b σ ρ i h hp hpl hm ha hb hi
    have c : ¬ (ρ 96 8 < 0 ∧ ¬ ρ 96 5 = 0) := by
      intro c
      have : mu ρ t = t + 1 - nx ρ := if_pos c
      have : nx ρ ≤ t := hp.nx.2
      omega
    have c2 : σ 1 4 = -1 ∨ ¬ σ 1 3 = -9 := by
      by_cases z : σ 1 3 = -9
      · have q := h.1.well z
        refine Or.inl ((tok_end q.2.2.2.2).mpr ?_)
        by_cases y : ρ 96 5 = 0
        · exact y
        · exact absurd ⟨q.n.2, y⟩ c
      · exact Or.inr z
    have e1 : mTownL t b ρ i = (ρ, i) := by
      cases b
      · rfl
      · rw [mTownL, if_neg c]
    have e2 : kReadL t a σ i = (σ, i) := by
      cases a
      · rfl
      · rw [kReadL, if_pos c2]
    rw [e1, e2]
    exact ⟨h, rfl⟩
  | succ m ih =>
    intro a b σ ρ i h hp hpl hm ha hb hi
    obtain ⟨a', rfl⟩ : ∃ a', a = a' + 1 := ⟨a - 1, by omega⟩
    obtain ⟨b', rfl⟩ : ∃ b', b = b' + 1 := ⟨b - 1, by omega⟩
    by_cases c : ρ 96 8 < 0 ∧ ¬ ρ 96 5 = 0
    · have q := h.1.wellm c.1
      have c2 : ¬ (σ 1 4 = -1 ∨ ¬ σ 1 3 = -9) := by
        intro z
        rcases z with z | z
        · exact c.2 ((tok_end q.2.2.2.2).mp z)
        · exact z q.1
      obtain ⟨P, N, D, w, f, hd⟩ := h.2 q.1
      have hs := item_rel h.1 q hd (by omega)
      have hmu := step_mu (i := i) hp hpl c.1 c.2
      rw [kReadL, if_neg c2, mTownL, if_pos c]
      exact ih a' b' _ _ (i + 1) hs (pOk_take (pOk_s2 hp)) (plOk_take (pOk_s2 hp) (plOk_s2 hp hpl)) (by omega) (by omega) (by omega) (by omega)
    · have c2 : σ 1 4 = -1 ∨ ¬ σ 1 3 = -9 := by
        by_cases z : σ 1 3 = -9
        · have q := h.1.well z
          refine Or.inl ((tok_end q.2.2.2.2).mpr ?_)
          by_cases y : ρ 96 5 = 0
          · exact y
          · exact absurd ⟨q.n.2, y⟩ c
        · exact Or.inr z
      rw [kReadL, if_pos c2, mTownL, if_neg c]
      exact ⟨h, rfl⟩
/-! what the readers leave as it was -/
theorem kI1_ne {σ : gSt} {t c : Nat} {b : Bool} (h : 9 ≤ c) : kI1 σ t b c = σ c := by
  unfold kI1
  split
  · unfold kDutyS
    rw [show kD5 σ t = kNumS (kD4 σ t) t 1 60 from rfl, show kD4 σ t = kNumS (kD3 σ t) t 0 239 from rfl, show kD3 σ t = kNumS (kD2 σ t) t 0 (σ 3 0 - 1) from rfl, show kD2 σ t = kNumS (kD1 σ t) t 0 (σ 3 1 - 1) from rfl, show kD1 σ t = kWordS σ t (!decide (8 ≤ σ 3 2)) from rfl]
    split
    · rw [gu_ne (by omega), gu_ne (by omega), gu_ne (by omega), gu_ne (by omega), gu_ne (by omega), kNumS_ne (by omega), kNumS_ne (by omega), kNumS_ne (by omega), kNumS_ne (by omega), kWordS_ne (by omega)]
    · rw [kNumS_ne (by omega), kNumS_ne (by omega), kNumS_ne (by omega), kNumS_ne (by omega), kWordS_ne (by omega)]
  · split
    · rw [kFreeS, gu_ne (by omega), kNumS_ne (by omega), kF0, gu_ne (by omega), kWordS_ne (by omega)]
    · split
      · rw [kWalkS, gu_ne (by omega), kNumS_ne (by omega), kW0, gu_ne (by omega), kWordS_ne (by omega)]
      · split
        · unfold kPersonS
          rw [show kP2 σ t = kNumS (kP1 σ t) t 0 (σ 3 0 - 1) from rfl, show kP1 σ t = kWordS σ t (!decide (5 ≤ σ 3 1)) from rfl]
          split
          · rw [gu_ne (by omega), gu_ne (by omega), kNumS_ne (by omega), kWordS_ne (by omega)]
          · rw [kNumS_ne (by omega), kWordS_ne (by omega)]
        · split
          · rw [kPlacesS, gu_ne (by omega), kNumS_ne (by omega), kWordS_ne (by omega)]
          · exact kRefS_ne (by omega)
theorem kItem_ne {σ : gSt} {t c : Nat} {b : Bool} (h : 9 ≤ c) : kItemS σ t b c = σ c := by
  rw [kItem_word, kWordS_ne (by omega), kI1_ne h]
theorem kReadL_ne {t c : Nat} (h : 9 ≤ c) : ∀ (a : Nat) (σ : gSt) (i : Nat), (kReadL t a σ i).1 c = σ c
  | 0, _, _ => rfl
  | a + 1, σ, i => by
    rw [kReadL]
    split
    · rfl
    · rw [kReadL_ne h a, kItem_ne h]
theorem kRead_ne {σ : gSt} {t c : Nat} (h : 9 ≤ c) : (kRead σ t).1 c = σ c := by
  rw [kRead, kReadL_ne h, kRead0, kAdvS_ne (by omega), gu_ne (by omega), gu_ne (by omega), gu_ne (by omega), gu_ne (by omega), kReset, gu_ne (by omega), gu_ne (by omega), gu_ne (by omega), gu_ne (by omega), gu_ne (by omega)]
def mFr (ρ ρ' : gSt) : Prop := (∀ c, c < 96 ∨ 104 ≤ c → ρ' c = ρ c) ∧ (∀ j, j < 5 → ρ' 98 j = ρ 98 j) ∧ (∀ j, j < 5 → ρ' 99 j = ρ 99 j) ∧ (∀ j, j < 8 → ρ' 101 j = ρ 101 j ∧ ρ' 102 j = ρ 102 j ∧ ρ' 103 j = ρ 103 j) ∧ ρ' 96 20 = ρ 96 20 ∧ ρ' 96 24 = ρ 96 24
theorem mFr.rf (ρ : gSt) : mFr ρ ρ := ⟨fun _ _ => rfl, fun _ _ => rfl, fun _ _ => rfl, fun _ _ => ⟨rfl, rfl, rfl⟩, rfl, rfl⟩
theorem mFr.tr {a b c : gSt} (h : mFr a b) (k : mFr b c) : mFr a c := by
  obtain ⟨h1, h2, h3, h4, h5, h6⟩ := h
  obtain ⟨k1, k2, k3, k4, k5, k6⟩ := k
  exact ⟨fun c hc => (k1 c hc).trans (h1 c hc), fun c hc => (k2 c hc).trans (h2 c hc), fun c hc => (k3 c hc).trans (h3 c hc), fun c hc => ⟨(k4 c hc).1.trans (h4 c hc).1, (k4 c hc).2.1.trans (h4 c hc).2.1, (k4 c hc).2.2.trans (h4 c hc).2.2⟩, k5.trans h5, k6.trans h6⟩
theorem mFr_gu {S : gSt} {c k : Nat} {x : Int32} (h : (c = 96 ∧ k ≠ 20 ∧ k ≠ 24) ∨ (c = 98 ∧ 5 ≤ k) ∨ (c = 99 ∧ 5 ≤ k) ∨ c = 100 ∨ (101 ≤ c ∧ c ≤ 103 ∧ 8 ≤ k)) : mFr S (gu S c k x) :=
  ⟨fun y hy => gu_ne (by omega), fun j hj => gu_n (by omega), fun j hj => gu_n (by omega), fun j hj => ⟨gu_n (by omega), gu_n (by omega), gu_n (by omega)⟩, gu_n (by omega), gu_n (by omega)⟩
theorem mFr_adv {S : gSt} {t : Nat} : mFr S (mAdvS S t) := by
  rw [mAdvS, mPS]
  exact (((mFr_gu (by omega)).tr (mFr_gu (by omega))).tr (mFr_gu (by omega))).tr (mFr_gu (by omega))
theorem mFr_take {S : gSt} {t : Nat} {b : Bool} : mFr S (mTakeS S t b) := by
  unfold mTakeS; split
  · split
    · exact mFr_adv
    · exact mFr_gu (by omega)
  · exact mFr.rf S
theorem mFr_dst {S : gSt} {t c o : Nat} {a b : Int32} (h : (c = 98 ∧ 5 ≤ o) ∨ (c = 99 ∧ 5 ≤ o) ∨ c = 100 ∨ (101 ≤ c ∧ c ≤ 103 ∧ 8 ≤ o)) : mFr S (mDst c o a b t S) :=
  mFr.tr (mFr_take (b := mNumOk S a b)) (mFr_gu (Or.inr h))
theorem mFr_item {S : gSt} {t : Nat} {x : Int32} : mFr S (mItemS S t x) := by
  unfold mItemS
  split
  · exact mFr_dst (by omega)
  · split
    · exact (mFr_dst (by omega)).tr (mFr_gu (by omega))
    · split
      · unfold mDutyT
        exact ((((mFr_dst (by omega)).tr (mFr_dst (by omega))).tr (mFr_dst (by omega))).tr (mFr_dst (by omega))).tr (mFr_gu (by omega))
      · split
        · exact (mFr_dst (by omega)).tr (mFr_gu (by omega))
        · exact (mFr_dst (by omega)).tr (mFr_gu (by omega))
theorem mFr_step {S : gSt} {t i : Nat} : mFr S (mStep S t i) := by
  unfold mStep
  refine mFr.tr ?_ mFr_take
  unfold mS2
  split
  · exact mFr_take.tr mFr_item
  · exact mFr_take
theorem mFr_L {t : Nat} : ∀ (n : Nat) (S : gSt) (i : Nat), mFr S (mTownL t n S i).1
  | 0, S, _ => mFr.rf S
  | n + 1, S, i => by
    rw [mTownL]
    split
    · exact mFr_step.tr (mFr_L n _ _)
    · exact mFr.rf S
theorem mFr_town {S : gSt} {t : Nat} : mFr S (mTown S t).1 := by
  refine mFr.tr ?_ (mFr_L _ _ _)
  unfold mTown0 mBegS
  exact ((((((((mFr_gu (by omega)).tr (mFr_gu (by omega))).tr (mFr_gu (by omega))).tr (mFr_gu (by omega))).tr (mFr_gu (by omega))).tr (mFr_gu (by omega))).tr (mFr_gu (by omega))).tr (mFr_gu (by omega))).tr mFr_adv
/-- the texts read by both -/
theorem read_rel {σ ρ : gSt} {t : Nat} (h : rText σ ρ t) : tOut (kRead σ t).1 (mTown ρ t).1 t (kRead σ t).2 ∧ (kRead σ t).2 = (mTown ρ t).2 ∧ (kRead σ t).2 ≤ 200 := by
  have ht : t ≤ 200 := h.1
  have hc : tCom (gu (gu (gu (gu (kReset σ) 1 8 (bI false)) 1 9 (bI false)) 1 3 (-9)) 1 7 0) (mBegS (gu (gu ρ 96 8 (-1)) 96 4 0)) t := by
    refine tCom_cg h ?_ ?_ ?_ ?_
    · rw [gu_n (by decide), gu_n (by decide), gu_n (by decide), gu_n (by decide), kReset, gu_ne (by decide), gu_ne (by decide), gu_ne (by decide), gu_ne (by decide), gu_ne (by decide)]
    · rw [gu_ne (by decide), gu_ne (by decide), gu_ne (by decide), gu_ne (by decide), kReset, gu_ne (by decide), gu_ne (by decide), gu_ne (by decide), gu_ne (by decide), gu_ne (by decide)]
    · rw [mBegS, gu_ne (by decide), gu_ne (by decide), gu_ne (by decide), gu_ne (by decide), gu_ne (by decide), gu_n (by decide), gu_n (by decide), gu_n (by decide)]
    · rw [mBegS, gu_ne (by decide), gu_ne (by decide), gu_ne (by decide), gu_ne (by decide), gu_ne (by decide), gu_ne (by decide), gu_ne (by decide), gu_ne (by decide)]
  have hk7 : gu (gu (gu (gu (kReset σ) 1 8 (bI false)) 1 9 (bI false)) 1 3 (-9)) 1 7 0 1 7 = nI 0 := gu_s
  have hk3 : gu (gu (gu (gu (kReset σ) 1 8 (bI false)) 1 9 (bI false)) 1 3 (-9)) 1 7 0 1 3 = -9 := (gu_n (by decide)).trans gu_s
  have hm4 : mBegS (gu (gu ρ 96 8 (-1)) 96 4 0) 96 4 = nI 0 := by
    rw [mBegS, gu_ne (by decide), gu_ne (by decide), gu_ne (by decide), gu_ne (by decide), gu_ne (by decide), gu_n (by decide), gu_s]; rfl
  have hm8 : mBegS (gu (gu ρ 96 8 (-1)) 96 4 0) 96 8 = -1 := by
    rw [mBegS, gu_ne (by decide), gu_ne (by decide), gu_ne (by decide), gu_ne (by decide), gu_ne (by decide), gu_n (by decide), gu_n (by decide), gu_s]
  have hp0 : pOk (mBegS (gu (gu ρ 96 8 (-1)) 96 4 0)) t := ⟨hc.2.2.1, ht, 0, by omega, hm4⟩
  have hw := adv_rel hc ⟨0, by omega, hk7, hm4⟩ hk3 hm8
  have hd0 : tDr (gu (gu (gu (gu (kReset σ) 1 8 (bI false)) 1 9 (bI false)) 1 3 (-9)) 1 7 0) (mBegS (gu (gu ρ 96 8 (-1)) 96 4 0)) 2 0 0 2 3 0 := by
    refine ⟨⟨by omega, by omega, by omega, by omega, by omega, by omega, by omega⟩, fun _ => ⟨rfl, rfl⟩, ⟨?_, ?_, ?_, ?_, ?_⟩, ⟨?_, ?_, ?_, ?_, ?_⟩, ⟨0, 0, by omega, by omega, ?_, ?_, ?_⟩, fun p hp => absurd hp (by omega), fun p hp => absurd hp (by omega)⟩
    · rw [gu_ne (by decide), gu_ne (by decide), gu_ne (by decide), gu_ne (by decide), kReset]; simp [gu_at]; rfl
    · rw [gu_ne (by decide), gu_ne (by decide), gu_ne (by decide), gu_ne (by decide), kReset]; simp [gu_at]; rfl
    · rw [gu_ne (by decide), gu_ne (by decide), gu_ne (by decide), gu_ne (by decide), kReset]; simp [gu_at]; rfl
    · rw [gu_ne (by decide), gu_ne (by decide), gu_ne (by decide), gu_ne (by decide), kReset]; simp [gu_at]; rfl
    · rw [gu_ne (by decide), gu_ne (by decide), gu_ne (by decide), gu_ne (by decide), kReset]; simp [gu_at]; rfl
    · rw [mBegS]; simp [gu_at]; rfl
    · rw [mBegS]; simp [gu_at]; rfl
    · rw [mBegS]; simp [gu_at]; rfl
    · rw [mBegS]; simp [gu_at]; rfl
    · rw [mBegS]; simp [gu_at]; rfl
    · simp [gu_at]; rfl
    · simp [gu_at]; rfl
    · rw [mBegS]; simp [gu_at]; rfl
  have ho : tOut (kRead0 σ t) (mTown0 ρ t) t 0 :=
    ⟨⟨tCom_kadv (tCom_madv hc), Or.inl hw⟩, fun _ => ⟨2, 0, 0, 2, 3, tDr_cg hd0 (fun c _ _ => kAdvS_ne (by omega)) (kadv_o (by decide) (by decide) (by decide) (by decide)) (kadv_o (by decide) (by decide) (by decide) (by decide)) (fun c _ _ => mAdvS_ne (by omega)) (adv_o (by decide) (by decide) (by decide) (by decide))⟩⟩
  have hp1 : pOk (mTown0 ρ t) t := pOk_adv hp0
  have hpl1 : plOk (mTown0 ρ t) := plOk_adv hp0
  have hmu : mu (mTown0 ρ t) t ≤ t := by
    unfold mu
    split
    · next c =>
      have := (adv_next hp0).2.1 c.2
      have e : nx (mAdvS (mBegS (gu (gu ρ 96 8 (-1)) 96 4 0)) t) = nx (mTown0 ρ t) := rfl
      omega
    · omega
  have := loop_rel t 200 (t + 1) _ _ 0 ho hp1 hpl1 hmu ht (by omega) (by omega)
  refine ⟨this.1, this.2, ?_⟩
  have : ∀ (a : Nat) (σ : gSt) (i : Nat), (kReadL t a σ i).2 ≤ i + a := by
    intro a
    induction a with
    | zero => intro σ i; exact Nat.le_refl _
    | succ a ih =>
      intro σ i
      rw [kReadL]
      split
      · exact Nat.le_add_right _ _
      · exact Nat.le_trans (ih _ _) (by omega)
  have := this 200 (kRead0 σ t) 0
  rw [kRead]; omega
