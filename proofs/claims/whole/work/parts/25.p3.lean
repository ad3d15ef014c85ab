theorem p_swaps {σ ρ : gSt} {P N D w f u j hd t : Nat} (h : Rel σ ρ P N D w f u j hd t) (a0 a1 : Int32) : kA_swaps σ a0 a1 D j u = mA_swaps ρ a0 a1 D u ∧ RelE (kS_swaps σ a0 a1 D j u) (mS_swaps ρ a0 a1 D u) := by
  simp only [kA_swaps, mA_swaps, kS_swaps, mS_swaps, h.gd]
  by_cases c : mIn a0 0 (ρ 98 2 - 1) = true ∧ mIn a1 0 (ρ 98 2 - 1) = true
  · simp only [if_pos c]
    obtain ⟨p, hp, e0, e1⟩ := h.dut c.1
    obtain ⟨b, hb, f0, f1⟩ := h.dut c.2
    have k1 : σ 20 p = ρ 104 (17 + p) := h.mo.1.2.2.2 p hp
    have k2 : σ 20 b = ρ 104 (17 + b) := h.mo.1.2.2.2 b hb
    rw [e1, f1]
    simp only [k1, k2]
    by_cases d : ρ 104 (17 + p) = ρ 104 (17 + b)
    · simp only [if_pos d, true_and]
      exact ⟨P, N, D, w, f, u, j, hd, t, h⟩
    · simp only [if_neg d, true_and]
      have bd := h.bd
      have hN := bd.2.2.1
      have hr := rem_rel h
      rw [show kRem σ j u 20 = σ 20 from kRem_ne (by decide), show mNotes ρ u 104 = ρ 104 from mNotes_ne (by decide) (by decide), k1, k2]
      refine ⟨P, N, D, w, f, _, _, hd, t, Rel_now hr ?_ ?_ ?_⟩
      · intro c hc; rw [gu_ne (by omega), gu_ne (by omega)]
      · intro c hc; rw [gu_ne (by omega), gu_ne (by omega)]
      · obtain ⟨⟨x1, x2, x3, x4⟩, y1, y2, y3, y4⟩ := hr.mo
        have g : ∀ k, k ≠ 17 + p → k ≠ 17 + b → gu (gu (mNotes ρ u) 104 (17 + p) (ρ 104 (17 + b))) 104 (17 + b) (ρ 104 (17 + p)) 104 k = mNotes ρ u 104 k := fun k h1 h2 => by rw [gu_at, if_neg (fun z => h2 z.2), gu_at, if_neg (fun z => h1 z.2)]
        obtain ⟨vp, hvp, ep⟩ := h.mo.2.2.2.2 p hp
        obtain ⟨vb, hvb, eb⟩ := h.mo.2.2.2.2 b hb
        refine ⟨⟨?_, ?_, ?_, ?_⟩, ?_, ?_, ?_, ?_⟩
        · rw [gu_ne (by decide), gu_ne (by decide), gu_at, if_neg (by omega), gu_at, if_neg (by omega)]; exact x1
        · rw [gu_ne (by decide), gu_ne (by decide), gu_at, if_neg (by omega), gu_at, if_neg (by omega)]; exact x2
        · intro q hq
          rw [g q (by omega) (by omega), g (5 + q) (by omega) (by omega), g (10 + q) (by omega) (by omega), gu_ne (by decide), gu_ne (by decide), gu_ne (by decide), gu_ne (by decide), gu_ne (by decide), gu_ne (by decide)]
          exact x3 q hq
        · intro x hx
          have := x4 x hx
          simp only [gu_at]
          by_cases w1 : x = b
          · subst w1; simp
          · by_cases w2 : x = p
            · subst w2; simp [w1]
            · simp [w1, w2]; exact this
        · rw [gu_at, if_neg (by omega), gu_at, if_neg (by omega)]; exact y1
        · rw [gu_at, if_neg (by omega), gu_at, if_neg (by omega)]; exact y2
        · intro q hq
          rw [g q (by omega) (by omega), g (5 + q) (by omega) (by omega)]
          exact y3 q hq
        · intro x hx
          have := y4 x hx
          simp only [gu_at]
          by_cases w1 : x = b
          · subst w1; simp; exact ⟨vp, hvp, ep⟩
          · by_cases w2 : x = p
            · subst w2; simp [w1]; exact ⟨vb, hvb, eb⟩
            · simp [w1, w2]; exact this
  · simp only [if_neg c, true_and]
    exact ⟨P, N, D, w, f, u, j, hd, t, h⟩
theorem ex_flip {ex : Int32} {d k : Nat} (hd : d < 32) (hk : k < 2) (h : ¬ kBit ex (nI d) = nI k) : ex ^^^ ((1 : Int32) <<< (nI d &&& 31)) = ex &&& (((1 : Int32) <<< (nI d &&& 31)) ^^^ -1) ||| nI k <<< (nI d &&& 31) := by
  apply tb_ext
  intro x hx
  rw [tb_or, tb_and, tb_xor, tb_not hx, tb_one hd]
  rw [kBit_tb hd] at h
  have z : (0 : Int32) <<< (nI d &&& 31) = 0 := by
    apply tb_ext
    intro y hy
    simp [tb]
  have : k = 0 ∨ k = 1 := by omega
  rcases this with q | q <;> subst q
  · rw [show nI 0 = 0 from rfl, z, tb_0]
    have : tb ex d = true := by
      cases e : tb ex d
      · rw [e] at h; exact absurd rfl h
      · rfl
    by_cases e : x = d
    · subst e; simp [this]
    · simp [e]
  · rw [show nI 1 = 1 from rfl, tb_one hd]
    have : tb ex d = false := by
      cases e : tb ex d
      · rfl
      · rw [e] at h; exact absurd rfl h
    by_cases e : x = d
    · subst e; simp [this]
    · simp [e]
theorem nat_tb {n m k : Nat} (h : m < 2 ^ n) (hk : k < 32) (ht : tb (nI m) k = true) : k < n := by
  rw [tb_nI hk] at ht
  rcases Nat.lt_or_ge k n with q | q
  · exact q
  · have : m.testBit k = false := Nat.testBit_lt_two_pow (Nat.lt_of_lt_of_le h (Nat.pow_le_pow_right (by decide) q))
    rw [this] at ht
    exact absurd ht (by decide)
theorem two8 {D : Nat} (h : D ≤ 8) : 2 ^ D ≤ 256 := Nat.pow_le_pow_right (n := 2) (by decide) h
theorem p_excuses {σ ρ : gSt} {P N D w f u j hd t : Nat} (h : Rel σ ρ P N D w f u j hd t) (a0 a1 : Int32) : kA_excuses σ a0 a1 D j u = mA_excuses ρ a0 a1 D u ∧ RelE (kS_excuses σ a0 a1 D j u) (mS_excuses ρ a0 a1 D u) := by
  simp only [kA_excuses, mA_excuses, kS_excuses, mS_excuses, h.gd, is01]
  by_cases c : mIn a0 0 (ρ 98 2 - 1) = true ∧ mIn a1 0 1 = true
  · simp only [if_pos c]
    obtain ⟨p, hp, e0, e1⟩ := h.dut c.1
    obtain ⟨b, _, hb, f0, f1⟩ := mIn_k (m := 0) (n := 1) rfl rfl (by decide) (by decide) c.2
    have bd := h.bd
    have hD := bd.2.2.2.1
    have k1 : σ 16 1 = ρ 104 16 := h.mo.1.2.1
    have e2 : kBit (σ 16 1) a0 = ((ρ 104 16 >>> (a0 &&& 31)) &&& 1) := by rw [k1]; rfl
    rw [e2]
    by_cases d : ((ρ 104 16 >>> (a0 &&& 31)) &&& 1) = a1
    · simp only [if_pos d, true_and]
      exact ⟨P, N, D, w, f, u, j, hd, t, h⟩
    · simp only [if_neg d]
      have hr := rem_rel h
      obtain ⟨m, hm, em⟩ := h.mo.2.2.1
      have d' : ¬ kBit (nI m) (nI p) = nI b := by rw [← em, ← e0, ← f0]; exact d
      have key := ex_flip (by omega) (by omega) d'
      obtain ⟨m2, hm2, em2⟩ := nat_of_low (x := nI m ^^^ ((1 : Int32) <<< (nI p &&& 31))) (n := D) hD (by
        intro k hk hb
        rw [tb_xor, tb_one (by omega)] at hb
        by_cases e : k = p
        · omega
        · simp [e] at hb; exact nat_tb hm hk hb)
      rw [show kRem σ j u 16 = σ 16 from kRem_ne (by decide), show mNotes ρ u 104 = ρ 104 from mNotes_ne (by decide) (by decide), k1, em, e0, f0, ← key, em2]
      refine ⟨kBC_ones m2 (Nat.lt_of_lt_of_le hm2 (two8 hD)), P, N, D, w, f, _, _, hd, t, Rel_now hr ?_ ?_ ?_⟩
      · intro c hc; rw [gu_ne (by omega)]
      · intro c hc; rw [gu_ne (by omega)]
      · obtain ⟨⟨x1, x2, x3, x4⟩, y1, y2, y3, y4⟩ := hr.mo
        have g : ∀ k, k ≠ 16 → gu (mNotes ρ u) 104 16 (nI m2) 104 k = mNotes ρ u 104 k := fun k hk => by rw [gu_at, if_neg (by omega)]
        refine ⟨⟨?_, ?_, ?_, ?_⟩, ?_, ?_, ?_, ?_⟩
        · rw [g 15 (by omega), gu_at, if_neg (by omega)]; exact x1
        · simp [gu_at]
        · intro q hq
          have hN := bd.2.2.1
          rw [g q (by omega), g (5 + q) (by omega), g (10 + q) (by omega), gu_ne (by decide), gu_ne (by decide), gu_ne (by decide)]
          exact x3 q hq
        · intro d hd
          rw [g (17 + d) (by omega), gu_ne (by decide)]; exact x4 d hd
        · rw [g 15 (by omega)]; exact y1
        · exact ⟨m2, hm2, by simp [gu_at]⟩
        · intro q hq
          have hN := bd.2.2.1
          rw [g q (by omega), g (5 + q) (by omega)]; exact y3 q hq
        · intro d hd
          rw [g (17 + d) (by omega)]; exact y4 d hd
  · simp only [if_neg c, true_and]
    exact ⟨P, N, D, w, f, u, j, hd, t, h⟩
theorem p_undo {σ ρ : gSt} {P N D w f u j hd t : Nat} (h : Rel σ ρ P N D w f u j hd t) : kA_undo σ j u = mA_undo ρ u ∧ RelE (kS_undo σ j u) (mS_undo ρ u) := by
  simp only [kA_undo, mA_undo, kS_undo, mS_undo, kRes, true_and]
  by_cases c : u = 0
  · simp only [if_pos c]
    exact ⟨P, N, D, w, f, u, j, hd, t, h⟩
  · simp only [if_neg c]
    have hN := h.bd.2.2.1
    have hD := h.bd.2.2.2.1
    obtain ⟨hu, hj, h1, h2, h3, hq⟩ := h.un
    have fr : ∀ c, c < 16 ∨ 21 < c → kTake (gu (gu σ 21 2 (nI ((j + 10 - 1) % 10))) 21 1 (nI (u - 1))) 16 (22 + 1 + 5 * ((j + 10 - 1) % 10)) c = σ c := fun c hc => by rw [kTake_ne (by omega), gu_ne (by omega), gu_ne (by omega)]
    have fm : ∀ c, c ≠ 104 → c ≠ 96 → gcp 104 107 0 (25 * (u - 1)) (gu ρ 96 20 (nI (u - 1))) 25 c = ρ c := fun c h1 h2 => by rw [gcp_ne h1, gu_ne h2]
    have f96 : ∀ k, k ≠ 20 → gcp 104 107 0 (25 * (u - 1)) (gu ρ 96 20 (nI (u - 1))) 25 96 k = ρ 96 k := fun k h1 => by rw [gcp_ne (by decide), gu_at, if_neg (fun q => h1 q.2)]
    refine ⟨P, N, D, w, f, u - 1, (j + 10 - 1) % 10, hd, t, rPlan_cg h.pl (fun c _ _ => fr c (by omega)) (fun c _ _ => fm c (by omega) (by omega)), ?_, ⟨by omega, by omega, ?_, ?_, ?_, ?_⟩, rImg_cg h.im hN hD (fun c _ _ => fr c (by omega)) (fm 105 (by omega) (by omega)) (fm 106 (by omega) (by omega)), rHeard_cg h.he (fun c _ _ => fr c (by omega)) (fun c _ _ => fm c (by omega) (by omega)) (f96 24 (by omega)), rText_cg h.tx (by rw [fr 1 (by omega)]) (fr 2 (by omega)) (fm 97 (by omega) (by omega)) (f96 3 (by omega)), rZero_cg h.ze (fr 79 (by omega)) (fr 80 (by omega))⟩
    · refine mRel_take hN hD (by omega) ?_
      have := hq (u - 1) (by omega)
      rw [show (j + 10 - u + (u - 1)) % 10 = (j + 10 - 1) % 10 by omega] at this
      refine mRel_cg this (fun c _ _ => by rw [gu_ne (by omega), gu_ne (by omega)]) (fun k hk => ?_) hN hD
      rw [gcp_at (Or.inl (by decide)), if_pos (by omega), gu_ne (by decide), Nat.sub_zero]
    · rw [kTake_ne (by omega), gu_at, if_pos ⟨rfl, rfl⟩]
    · rw [kTake_ne (by omega), gu_at, if_neg (by decide), gu_at, if_pos ⟨rfl, rfl⟩]
    · rw [gcp_ne (by decide), gu_at, if_pos ⟨rfl, rfl⟩]
    · intro q hq2
      have := hq q (by omega)
      rw [show ((j + 10 - 1) % 10 + 10 - (u - 1) + q) % 10 = (j + 10 - u + q) % 10 by omega]
      exact mRel_cg this (fun c _ _ => fr c (by omega)) (fun k hk => by rw [fm 107 (by omega) (by omega)]) hN hD
theorem p_keep {σ ρ : gSt} {P N D w f u j hd t : Nat} (h : Rel σ ρ P N D w f u j hd t) (a0 : Int32) : kA_keep σ a0 = mA_keep ρ a0 ∧ RelE (kS_keep σ a0) (mS_keep ρ a0) := by
  simp only [kA_keep, mA_keep, kS_keep, mS_keep, kIs_2]
  by_cases c : mIn a0 0 1 = true
  · simp only [if_pos c]
    obtain ⟨b, _, hb, f0, f1⟩ := mIn_k (m := 0) (n := 1) rfl rfl (by decide) (by decide) c
    have hN := h.bd.2.2.1
    have hD := h.bd.2.2.2.1
    rw [f1]
    refine ⟨by rw [kTake_ne (by omega)]; exact h.mo.1.1, ?_⟩
    have fr : ∀ c, c ≠ 95 → c < 84 + 1 + 5 * b ∨ 84 + 1 + 5 * b + 4 < c → gu (kTake σ (84 + 1 + 5 * b) 16) 95 b 1 c = σ c := fun c hc hc2 => by rw [gu_ne hc, kTake_ne hc2]
    have fm : ∀ c, c ≠ 105 → c ≠ 106 → gu (gcp 105 104 (25 * b) 0 ρ 25) 106 b 1 c = ρ c := fun c h1 h2 => by rw [gu_ne h2, gcp_ne h1]
    refine ⟨P, N, D, w, f, u, j, hd, t, rPlan_cg h.pl (fun c _ _ => fr c (by omega) (by omega)) (fun c _ _ => fm c (by omega) (by omega)), mRel_cg h.mo (fun c _ _ => fr c (by omega) (by omega)) (fun k _ => by rw [fm 104 (by omega) (by omega)]) hN hD, rUndo_cg h.un hN hD (fun c _ _ => fr c (by omega) (by omega)) (fm 107 (by omega) (by omega)) (by rw [fm 96 (by omega) (by omega)]), ?_, rHeard_cg h.he (fun c _ _ => fr c (by omega) (by omega)) (fun c _ _ => fm c (by omega) (by omega)) (by rw [fm 96 (by omega) (by omega)]), rText_cg h.tx (by rw [fr 1 (by omega) (by omega)]) (fr 2 (by omega) (by omega)) (fm 97 (by omega) (by omega)) (by rw [fm 96 (by omega) (by omega)]), rZero_cg h.ze (fr 79 (by omega) (by omega)) (fr 80 (by omega) (by omega))⟩
    intro q hq
    obtain ⟨x, y⟩ := h.im q hq
    have k106 : gcp 105 104 (25 * b) 0 ρ 25 106 = ρ 106 := gcp_ne (by decide) 25
    have k95 : kTake σ (84 + 1 + 5 * b) 16 95 = σ 95 := kTake_ne (by omega)
    by_cases e : q = b
    · subst e
      refine ⟨by simp [gu_at], fun _ => ?_⟩
      refine mRel_cg (mRel_take (i := 84 + 1 + 5 * q) hN hD (by omega) h.mo) (fun c _ _ => by rw [gu_ne (by omega)]) (fun k hk => ?_) hN hD
      rw [gu_ne (by decide), gcp_at (Or.inl (by decide)), if_pos (by omega), show 0 + (25 * q + k - 25 * q) = k by omega]
    · have e1 : gu (gcp 105 104 (25 * b) 0 ρ 25) 106 b 1 106 q = ρ 106 q := by rw [gu_at, if_neg (fun z => e z.2), k106]
      have e2 : gu (kTake σ (84 + 1 + 5 * b) 16) 95 b 1 95 q = σ 95 q := by rw [gu_at, if_neg (fun z => e z.2), k95]
      rw [e1, e2]
      refine ⟨x, fun z => mRel_cg (y z) (fun c _ _ => by rw [gu_ne (by omega), kTake_ne (by omega)]) (fun k hk => ?_) hN hD⟩
      rw [gu_ne (by decide), gcp_at (Or.inl (by decide)), if_neg (by omega)]
  · simp only [c, if_false, Bool.false_eq_true, true_and]
    exact ⟨P, N, D, w, f, u, j, hd, t, h⟩
theorem p_back {σ ρ : gSt} {P N D w f u j hd t : Nat} (h : Rel σ ρ P N D w f u j hd t) (a0 : Int32) : kA_back σ a0 = mA_back ρ a0 ∧ RelE (kS_back σ a0) (mS_back ρ a0) := by
  simp only [kA_back, mA_back, kS_back, mS_back, kIs_2]
  by_cases c : mIn a0 0 1 = true
  · simp only [if_pos c]
    obtain ⟨b, _, hb, f0, f1⟩ := mIn_k (m := 0) (n := 1) rfl rfl (by decide) (by decide) c
    have hN := h.bd.2.2.1
    have hD := h.bd.2.2.2.1
    rw [f1]
    obtain ⟨x, y⟩ := h.im b (by omega)
    rw [x]
    by_cases e : ρ 106 b = 0
    · simp only [if_pos e, true_and]
      exact ⟨P, N, D, w, f, u, j, hd, t, h⟩
    · simp only [if_neg e]
      have g104 : ∀ k, k < 25 → gcp 104 105 0 (25 * b) ρ 25 104 k = ρ 105 (25 * b + k) := fun k hk => by rw [gcp_at (Or.inl (by decide)), if_pos (by omega), Nat.sub_zero]
      have mr := mRel_take (i := 16) hN hD (by omega) (y e)
      refine ⟨by rw [g104 15 (by omega)]; exact mr.1.1, ?_⟩
      have fr : ∀ c, c ≠ 21 → c < 16 ∨ 20 < c → gu (kTake σ 16 (84 + 1 + 5 * b)) 21 1 0 c = σ c := fun c hc hc2 => by rw [gu_ne hc, kTake_ne hc2]
      have fm : ∀ c, c ≠ 104 → c ≠ 96 → gu (gcp 104 105 0 (25 * b) ρ 25) 96 20 0 c = ρ c := fun c h1 h2 => by rw [gu_ne h2, gcp_ne h1]
      have f96 : ∀ k, k ≠ 20 → gu (gcp 104 105 0 (25 * b) ρ 25) 96 20 0 96 k = ρ 96 k := fun k h1 => by rw [gu_at, if_neg (fun q => h1 q.2), gcp_ne (by decide)]
      obtain ⟨hu, hj, h1, h2, h3, hq⟩ := h.un
      refine ⟨P, N, D, w, f, 0, j, hd, t, rPlan_cg h.pl (fun c _ _ => fr c (by omega) (by omega)) (fun c _ _ => fm c (by omega) (by omega)), mRel_cg mr (fun c _ _ => by rw [gu_ne (by omega)]) (fun k hk => by rw [gu_ne (by decide), g104 k hk]) hN hD, ⟨by omega, hj, by simp [gu_at, nI_0], ?_, by simp [gu_at, nI_0], fun q hq => by omega⟩, rImg_cg h.im hN hD (fun c _ _ => fr c (by omega) (by omega)) (fm 105 (by omega) (by omega)) (fm 106 (by omega) (by omega)), rHeard_cg h.he (fun c _ _ => fr c (by omega) (by omega)) (fun c _ _ => fm c (by omega) (by omega)) (f96 24 (by omega)), rText_cg h.tx (by rw [fr 1 (by omega) (by omega)]) (fr 2 (by omega) (by omega)) (fm 97 (by omega) (by omega)) (f96 3 (by omega)), rZero_cg h.ze (fr 79 (by omega) (by omega)) (fr 80 (by omega) (by omega))⟩
      rw [gu_at, if_neg (by decide), kTake_ne (by omega)]; exact h2
  · simp only [c, if_false, Bool.false_eq_true, true_and]
    exact ⟨P, N, D, w, f, u, j, hd, t, h⟩
