/-! ===== what is done and undone ===== -/
theorem kTake_eq {σ : gSt} {i o : Nat} (h : i + 4 < o ∨ o + 4 < i) : kTake σ i o i 0 = σ o 0 ∧ kTake σ i o i 1 = σ o 1 ∧ (∀ p, p < 5 → kTake σ i o (i + 1) p = σ (o + 1) p ∧ kTake σ i o (i + 2) p = σ (o + 2) p ∧ kTake σ i o (i + 3) p = σ (o + 3) p) ∧ (∀ d, d < 8 → kTake σ i o (i + 4) d = σ (o + 4) d) := by
  have e0 : ∀ k, kTake σ i o i k = gu (gu σ i 0 (σ o 0)) i 1 (gu σ i 0 (σ o 0) o 1) i k := by
    intro k
    rw [kTake, gcpy_ne (by omega), gcpy_ne (by omega), gcpy_ne (by omega), gcpy_ne (by omega)]
  refine ⟨?_, ?_, ?_, ?_⟩
  · rw [e0, gu_at, if_neg (by omega), gu_at, if_pos ⟨rfl, rfl⟩]
  · rw [e0, gu_at, if_pos ⟨rfl, rfl⟩, gu_ne (by omega)]
  · intro p hp
    refine ⟨?_, ?_, ?_⟩
    · rw [kTake, gcpy_ne (by omega), gcpy_ne (by omega), gcpy_ne (by omega), gcpy_at hp, gu_ne (by omega), gu_ne (by omega)]
    · rw [kTake, gcpy_ne (by omega), gcpy_ne (by omega), gcpy_at hp, gcpy_ne (by omega), gu_ne (by omega), gu_ne (by omega)]
    · rw [kTake, gcpy_ne (by omega), gcpy_at hp, gcpy_ne (by omega), gcpy_ne (by omega), gu_ne (by omega), gu_ne (by omega)]
  · intro d hd
    rw [kTake, gcpy_at hd, gcpy_ne (by omega), gcpy_ne (by omega), gcpy_ne (by omega), gu_ne (by omega), gu_ne (by omega)]
theorem mRel_take {P N D i o : Nat} {σ : gSt} {s : Nat → Int32} (hN : N ≤ 5) (hD : D ≤ 8) (hi : i + 4 < o ∨ o + 4 < i) (h : mRel P N D σ o s) : mRel P N D (kTake σ i o) i s := by
  obtain ⟨a, b, c, d⟩ := kTake_eq (σ := σ) hi
  obtain ⟨⟨e, f, g, k⟩, r⟩ := h
  refine ⟨⟨?_, ?_, ?_, ?_⟩, r⟩
  · rw [a]; exact e
  · rw [b]; exact f
  · intro p hp
    obtain ⟨x, y, z⟩ := c p (by omega)
    rw [x, y, z]; exact g p hp
  · intro x hx
    rw [d x (by omega)]; exact k x hx
theorem kRem_fr {σ : gSt} {j u c : Nat} (h1 : c ≠ 21) (h2 : c < 23 + 5 * j ∨ 27 + 5 * j < c) : kRem σ j u c = σ c := by
  rw [kRem, gu_ne h1, gu_ne h1, kTake_ne (by omega)]
theorem mNotes_96 {ρ : gSt} {u k : Nat} (h : k ≠ 20) : mNotes ρ u 96 k = ρ 96 k := by
  rw [mNotes, gu_at, if_neg (fun q => h q.2), gcp_ne (by decide), mNotes1]
  split
  · rw [gu_at, if_neg (fun q => h q.2), gcp_ne (by decide)]
  · rfl
theorem mNotes_20 {ρ : gSt} {u : Nat} (h : u ≤ 10) : mNotes ρ u 96 20 = nI (min (u + 1) 10) := by
  rw [mNotes, gu_at, if_pos ⟨rfl, rfl⟩]
  congr 1
  split <;> omega
theorem mNotes_107 {ρ : gSt} {u q k : Nat} (hu : u ≤ 10) (hk : k < 25) (hq : q < min (u + 1) 10) : mNotes ρ u 107 (25 * q + k) = if q + 1 = min (u + 1) 10 then ρ 104 k else ρ 107 (25 * (if u = 10 then q + 1 else q) + k) := by
  rw [mNotes, gu_ne (by decide), gcp_at (Or.inl (by decide))]
  by_cases c : u = 10
  · subst c
    simp only [if_true]
    have m1 : mNotes1 ρ 10 104 = ρ 104 := by
      rw [mNotes1, if_pos rfl, gu_ne (by decide), gcp_ne (by decide)]
    by_cases d : q = 9
    · subst d
      rw [if_pos (by omega), if_pos (by decide), m1, show 0 + (25 * 9 + k - 25 * 9) = k by omega]
    · rw [if_neg (by omega), if_neg (by omega), mNotes1, if_pos rfl, gu_ne (by decide), gcp_at (Or.inr (by decide)), if_pos (by omega), show 25 + (25 * q + k - 0) = 25 * (q + 1) + k by omega]
  · simp only [if_neg c]
    have m1 : mNotes1 ρ u = ρ := by rw [mNotes1, if_neg c]
    rw [m1]
    by_cases d : q = u
    · subst d
      rw [if_pos (by omega), if_pos (by omega), show 0 + (25 * q + k - 25 * q) = k by omega]
    · rw [if_neg (by omega), if_neg (by omega)]
theorem rem_rel {σ ρ : gSt} {P N D w f u j hd t : Nat} (h : Rel σ ρ P N D w f u j hd t) : Rel (kRem σ j u) (mNotes ρ u) P N D w f (min (u + 1) 10) ((j + 1) % 10) hd t := by
  have hN := h.bd.2.2.1
  have hD := h.bd.2.2.2.1
  obtain ⟨hu, hj, _, _, _, hq⟩ := h.un
  have fr : ∀ c, c < 21 ∨ 72 < c → kRem σ j u c = σ c := fun c hc => kRem_fr (by omega) (by omega)
  refine ⟨rPlan_cg h.pl (fun c _ _ => fr c (by omega)) (fun c _ _ => mNotes_ne (by omega) (by omega)), mRel_cg h.mo (fun c _ _ => fr c (by omega)) (fun k _ => by rw [mNotes_ne (by omega) (by omega)]) hN hD, ?_, rImg_cg h.im hN hD (fun c _ _ => fr c (by omega)) (mNotes_ne (by omega) (by omega)) (mNotes_ne (by omega) (by omega)), rHeard_cg h.he (fun c _ _ => fr c (by omega)) (fun c _ _ => mNotes_ne (by omega) (by omega)) (mNotes_96 (by omega)), rText_cg h.tx (by rw [fr 1 (by omega)]) (fr 2 (by omega)) (mNotes_ne (by omega) (by omega)) (mNotes_96 (by omega)), rZero_cg h.ze (fr 79 (by omega)) (fr 80 (by omega))⟩
  refine ⟨by omega, by omega, ?_, ?_, mNotes_20 hu, ?_⟩
  · rw [kRem, gu_at, if_pos ⟨rfl, rfl⟩]
  · rw [kRem, gu_at, if_neg (by decide), gu_at, if_pos ⟨rfl, rfl⟩]
  · intro q hq2
    by_cases d : q + 1 = min (u + 1) 10
    · have e : ((j + 1) % 10 + 10 - min (u + 1) 10 + q) % 10 = j := by omega
      rw [e]
      refine mRel_cg (mRel_take (i := 22 + 1 + 5 * j) hN hD (by omega) h.mo) (fun c _ _ => ?_) (fun k hk => ?_) hN hD
      · rw [kRem, gu_ne (by omega), gu_ne (by omega)]
      · simp only [mNotes_107 hu hk hq2, if_pos d]
    · by_cases c : u = 10
      · subst c
        have e : ((j + 1) % 10 + 10 - min (10 + 1) 10 + q) % 10 = (j + 10 - 10 + (q + 1)) % 10 := by omega
        rw [e]
        refine mRel_cg (hq (q + 1) (by omega)) (fun c _ _ => kRem_fr (by omega) (by omega)) (fun k hk => ?_) hN hD
        simp only [mNotes_107 hu hk hq2, if_neg d, if_true]
      · have e : ((j + 1) % 10 + 10 - min (u + 1) 10 + q) % 10 = (j + 10 - u + q) % 10 := by omega
        rw [e]
        refine mRel_cg (hq q (by omega)) (fun c _ _ => kRem_fr (by omega) (by omega)) (fun k hk => ?_) hN hD
        simp only [mNotes_107 hu hk hq2, if_neg d, if_neg c]
/-- the moment alone changes -/
theorem Rel_now {σ ρ σ' ρ' : gSt} {P N D w f u j hd t : Nat} (h : Rel σ ρ P N D w f u j hd t) (h1 : ∀ c, c < 16 ∨ 20 < c → σ' c = σ c) (h2 : ∀ c, c ≠ 104 → ρ' c = ρ c) (hm : mRel P N D σ' 16 (ρ' 104)) : Rel σ' ρ' P N D w f u j hd t := by
  have hN := h.bd.2.2.1
  have hD := h.bd.2.2.2.1
  exact ⟨rPlan_cg h.pl (fun c _ _ => h1 c (by omega)) (fun c _ _ => h2 c (by omega)), hm, rUndo_cg h.un hN hD (fun c _ _ => h1 c (by omega)) (h2 107 (by omega)) (by rw [h2 96 (by omega)]), rImg_cg h.im hN hD (fun c _ _ => h1 c (by omega)) (h2 105 (by omega)) (h2 106 (by omega)), rHeard_cg h.he (fun c _ _ => h1 c (by omega)) (fun c _ _ => h2 c (by omega)) (by rw [h2 96 (by omega)]), rText_cg h.tx (by rw [h1 1 (by omega)]) (h1 2 (by omega)) (h2 97 (by omega)) (by rw [h2 96 (by omega)]), rZero_cg h.ze (h1 79 (by omega)) (h1 80 (by omega))⟩
theorem p_goes {σ ρ : gSt} {P N D w f u j hd t : Nat} (h : Rel σ ρ P N D w f u j hd t) (a0 a1 : Int32) : kA_goes σ a0 a1 N j u = mA_goes ρ a0 a1 N u ∧ RelE (kS_goes σ a0 a1 N j u) (mS_goes ρ a0 a1 N u) := by
  simp only [kA_goes, mA_goes, kS_goes, mS_goes, h.gp, h.gl]
  by_cases c : mIn a0 0 (ρ 98 1 - 1) = true ∧ mIn a1 0 (ρ 98 0 - 1) = true
  · simp only [if_pos c]
    obtain ⟨p, hp, e0, e1⟩ := h.per c.1
    obtain ⟨b, hb, f0, f1⟩ := h.pla c.2
    obtain ⟨m1, m2, m3⟩ := h.mo.1.2.2.1 p hp
    obtain ⟨⟨a, ha, ea⟩, ⟨g, hg, eg⟩⟩ := h.mo.2.2.2.1 p hp
    have k1 : σ 17 p = ρ 104 p := m1
    have k2 : σ 18 p = ρ 104 (5 + p) := m2
    rw [e1]
    simp only [k1, k2]
    by_cases d : 0 < ρ 104 (5 + p) ∨ ρ 104 p = a1
    · simp only [if_pos d, true_and]
      exact ⟨P, N, D, w, f, u, j, hd, t, h⟩
    · simp only [if_neg d]
      have bd := h.bd
      have hP := bd.2.1
      have hN := bd.2.2.1
      have hr := rem_rel h
      have s17 : kRem σ j u 17 p = nI a := by rw [kRem_ne (by decide), k1, ea]
      have s10 : kRem σ j u 10 3 = nI w := hr.pl.2.1.2.2.2.1
      have r98 : mNotes ρ u 98 3 = nI w := hr.pl.2.2.1.2.2.2.1
      have r104 : mNotes ρ u 104 p = nI a := by rw [mNotes_ne (by decide) (by decide), ea]
      have hnd : w * nd a b ≤ 45 := by
        have : nd a b ≤ 5 := by simp only [nd]; split <;> omega
        calc w * nd a b ≤ 9 * 5 := Nat.mul_le_mul bd.2.2.2.2.2.1 this
          _ = 45 := rfl
      rw [s17, s10, r104, ea, f0, h.pl.2.1.2.2.2.1, kMB_nat (by omega) (by omega), mWalk_nat r98 (by omega) (by omega), mWalk_nat h.pl.2.2.1.2.2.2.1 (by omega) (by omega)]
      refine ⟨rfl, P, N, D, w, f, _, _, hd, t, Rel_now hr ?_ ?_ ?_⟩
      · intro c hc; rw [gu_ne (by omega), gu_ne (by omega)]
      · intro c hc; rw [gu_ne (by omega), gu_ne (by omega)]
      · obtain ⟨⟨x1, x2, x3, x4⟩, y1, y2, y3, y4⟩ := hr.mo
        refine ⟨⟨?_, ?_, ?_, ?_⟩, ?_, ?_, ?_, ?_⟩
        · rw [gu_ne (by decide), gu_ne (by decide), gu_at, if_neg (by omega), gu_at, if_neg (by omega)]; exact x1
        · rw [gu_ne (by decide), gu_ne (by decide), gu_at, if_neg (by omega), gu_at, if_neg (by omega)]; exact x2
        · intro q hq
          obtain ⟨z1, z2, z3⟩ := x3 q hq
          simp only [gu_at]
          by_cases w1 : q = p
          · subst w1
            simp [show ¬ 5 + q = q by omega, show ¬ 10 + q = q by omega, show ¬ 10 + q = 5 + q by omega]
            exact z3
          · simp [w1, show ¬ 5 + q = p by omega, show ¬ 10 + q = p by omega, show ¬ q = 5 + p by omega, show ¬ 10 + q = 5 + p by omega, show ¬ 5 + q = 5 + p by omega]
            exact ⟨z1, z2, z3⟩
        · intro d hd
          rw [gu_ne (by decide), gu_ne (by decide), gu_at, if_neg (by omega), gu_at, if_neg (by omega)]; exact x4 d hd
        · rw [gu_at, if_neg (by omega), gu_at, if_neg (by omega)]; exact y1
        · rw [gu_at, if_neg (by omega), gu_at, if_neg (by omega)]; exact y2
        · intro q hq
          simp only [gu_at]
          obtain ⟨z1, z2⟩ := y3 q hq
          by_cases w1 : q = p
          · subst w1
            simp [show ¬ 5 + q = q by omega]
            exact ⟨⟨b, hb, rfl⟩, ⟨_, hnd, rfl⟩⟩
          · simp [w1, show ¬ 5 + q = p by omega, show ¬ q = 5 + p by omega, show ¬ 5 + q = 5 + p by omega]
            exact ⟨z1, z2⟩
        · intro d hd
          rw [gu_at, if_neg (by omega), gu_at, if_neg (by omega)]; exact y4 d hd
  · simp only [if_neg c, true_and]
    exact ⟨P, N, D, w, f, u, j, hd, t, h⟩
