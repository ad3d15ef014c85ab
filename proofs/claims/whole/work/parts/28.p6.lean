/-! ===== minutes pass ===== -/
theorem kMinP_19 {σ : gSt} {set : Int32} {p : Nat} : ∀ n, kMinP σ set n 19 p = if p < n then σ 19 p + kBit set (nI p) else σ 19 p
  | 0 => by simp [kMinP]
  | n + 1 => by
    rw [kMinP, gu_ne (by decide), gu_at]
    by_cases c : p = n
    · subst c
      rw [if_pos ⟨rfl, rfl⟩, if_pos (by omega), kMinP_19 p, if_neg (by omega)]
    · rw [if_neg (fun z => c z.2), kMinP_19 n]
      by_cases d : p < n
      · rw [if_pos d, if_pos (by omega)]
      · rw [if_neg d, if_neg (by omega)]
theorem kMinP_18 {σ : gSt} {set : Int32} {p : Nat} : ∀ n, kMinP σ set n 18 p = if p < n then (if 0 < σ 18 p - 1 then σ 18 p - 1 else 0) else σ 18 p
  | 0 => by simp [kMinP]
  | n + 1 => by
    rw [kMinP, gu_at]
    by_cases c : p = n
    · subst c
      rw [if_pos ⟨rfl, rfl⟩, if_pos (show p < p + 1 by omega), kMinP_18 p, if_neg (show ¬ p < p by omega)]
    · rw [if_neg (fun z => c z.2), gu_ne (by decide), kMinP_18 n]
      by_cases d : p < n
      · rw [if_pos d, if_pos (show p < n + 1 by omega)]
      · rw [if_neg d, if_neg (show ¬ p < n + 1 by omega)]
theorem mMinP_fr {ρ : gSt} {set : Int32} {c : Nat} (h : c ≠ 104) : ∀ n, mMinP ρ set n c = ρ c
  | 0 => rfl
  | n + 1 => by rw [mMinP, gu_ne h, gu_ne h, mMinP_fr h n]
def mMinV (ρ : gSt) (set : Int32) (n x : Nat) : Int32 :=
  if 10 ≤ x ∧ x < 10 + n then ρ 104 x + ((set >>> (nI (x - 10) &&& 31)) &&& 1) else if 5 ≤ x ∧ x < 5 + n then ρ 104 x - (if ρ 104 x ≤ 0 then 0 else 1) else ρ 104 x
theorem mMinP_at {ρ : gSt} {set : Int32} {x : Nat} : ∀ n, n ≤ 5 → mMinP ρ set n 104 x = mMinV ρ set n x
  | 0, _ => by rw [mMinP, mMinV, if_neg (by omega), if_neg (by omega)]
  | n + 1, h => by
    have ih := fun y => mMinP_at (ρ := ρ) (set := set) (x := y) n (by omega)
    rw [mMinP, gu_at]
    by_cases c : x = 5 + n
    · subst c
      rw [if_pos ⟨rfl, rfl⟩]
      simp only [gu_at, if_neg (show ¬ (5 + n = 10 + n) by omega), and_false, if_false, true_and]
      rw [ih, mMinV, mMinV, if_neg (show ¬ (10 ≤ 5 + n ∧ 5 + n < 10 + n) by omega), if_neg (show ¬ (5 ≤ 5 + n ∧ 5 + n < 5 + n) by omega), if_neg (show ¬ (10 ≤ 5 + n ∧ 5 + n < 10 + (n + 1)) by omega), if_pos (show (5 ≤ 5 + n ∧ 5 + n < 5 + (n + 1)) by omega)]
    · rw [if_neg (fun z => c z.2), gu_at]
      by_cases d : x = 10 + n
      · subst d
        rw [if_pos ⟨rfl, rfl⟩, ih, mMinV, mMinV, if_neg (by omega), if_neg (by omega), if_pos (by omega), show 10 + n - 10 = n by omega]
      · rw [if_neg (fun z => d z.2), ih, mMinV, mMinV]
        by_cases e : 10 ≤ x ∧ x < 10 + n
        · rw [if_pos e, if_pos (by omega)]
        · rw [if_neg e, if_neg (show ¬ (10 ≤ x ∧ x < 10 + (n + 1)) by omega)]
          by_cases g : 5 ≤ x ∧ x < 5 + n
          · rw [if_pos g, if_pos (show 5 ≤ x ∧ x < 5 + (n + 1) by omega)]
          · rw [if_neg g, if_neg (by omega)]
theorem go_less {g : Nat} (h : g ≤ 45) : (if 0 < nI g - 1 then nI g - 1 else 0) = nI (g - 1) ∧ nI g - (if nI g ≤ 0 then 0 else 1) = nI (g - 1) := by
  have : ∀ g, g ≤ 45 → (if 0 < nI g - 1 then nI g - 1 else 0) = nI (g - 1) ∧ nI g - (if nI g ≤ 0 then 0 else 1) = nI (g - 1) := by decide
  exact this g h
theorem rings_low {σ ρ : gSt} {P N D w f u j hd t : Nat} (h : Rel σ ρ P N D w f u j hd t) (wo : Int32) (mi : Nat) : ∃ m, m < 2 ^ N ∧ mRings ρ wo (nI mi) D N = nI m := by
  have hN := h.bd.2.2.1
  refine nat_of_low (by omega) (fun k hk z => ?_)
  rw [mRings, tb_rRings N (by omega)] at z
  exact z.1
theorem min_step {σ ρ : gSt} {P N D w f u j hd t mi : Nat} (h : Rel σ ρ P N D w f u j hd t) (hmi : ρ 104 15 = nI mi) (hm2 : mi < 240) (h25 : ρ 96 25 = ρ 104 16) : Rel (kMin σ D N) (mMin ρ D N) P N D w f u j hd t ∧ mMin ρ D N 104 15 = nI (mi + 1) ∧ mMin ρ D N 96 25 = mMin ρ D N 104 16 ∧ kBC (sRung σ (σ 16 0) D) = mOnes (mSet ρ D N) 8 := by
  have hN := h.bd.2.2.1
  have hD := h.bd.2.2.2.1
  have k0 : σ 16 0 = nI mi := (show σ 16 0 = ρ 104 15 from h.mo.1.1).trans hmi
  have es : sRung σ (σ 16 0) D = mSet ρ D N := by rw [k0, sRung_eq h hm2, mSet, h25, hmi]
  obtain ⟨m, hm, em⟩ := rings_low h (ρ 104 16) mi
  have em' : mSet ρ D N = nI m := by rw [mSet, h25, hmi]; exact em
  have fr : ∀ x, x ≠ 15 → mMin ρ D N 104 x = mMinV ρ (nI m) N x := fun x hx => by rw [mMin, gu_at, if_neg (fun z => hx z.2), em', mMinP_at N hN]
  have f15 : mMin ρ D N 104 15 = nI (mi + 1) := by
    rw [mMin, gu_at, if_pos ⟨rfl, rfl⟩, mMinP_at N hN, mMinV, if_neg (by omega), if_neg (by omega), hmi, nI_1]
  have fc : ∀ c, c ≠ 104 → mMin ρ D N c = ρ c := fun c hc => by rw [mMin, gu_ne hc, mMinP_fr hc]
  have f16 : mMin ρ D N 104 16 = ρ 104 16 := by rw [fr 16 (by decide), mMinV, if_neg (by omega), if_neg (by omega)]
  refine ⟨Rel_now h (fun c hc => kMin_ne (by omega) (by omega) (by omega)) fc ?_, f15, ?_, ?_⟩
  · obtain ⟨⟨x1, x2, x3, x4⟩, y1, y2, y3, y4⟩ := h.mo
    have vp : ∀ q, q < N → mMinV ρ (nI m) N q = ρ 104 q ∧ mMinV ρ (nI m) N (5 + q) = ρ 104 (5 + q) - (if ρ 104 (5 + q) ≤ 0 then 0 else 1) ∧ mMinV ρ (nI m) N (10 + q) = ρ 104 (10 + q) + kBit (nI m) (nI q) := by
      intro q hq
      refine ⟨?_, ?_, ?_⟩
      · rw [mMinV, if_neg (by omega), if_neg (by omega)]
      · rw [mMinV, if_neg (by omega), if_pos (by omega)]
      · rw [mMinV, if_pos (by omega), show 10 + q - 10 = q by omega]; rfl
    refine ⟨⟨?_, ?_, ?_, ?_⟩, ?_, ?_, ?_, ?_⟩
    · rw [f15, kMin, gu_at, if_pos ⟨rfl, rfl⟩, kMinP_ne (by decide) (by decide), k0, nI_1]
    · rw [f16, kMin, gu_at, if_neg (by omega), kMinP_ne (by decide) (by decide)]; exact x2
    · intro q hq
      obtain ⟨z1, z2, z3⟩ := x3 q hq
      obtain ⟨v1, v2, v3⟩ := vp q hq
      obtain ⟨_, g, hg, eg⟩ := y3 q hq
      rw [fr q (by omega), fr (5 + q) (by omega), fr (10 + q) (by omega), v1, v2, v3, kMin, gu_ne (by decide), gu_ne (by decide), gu_ne (by decide), es, em']
      refine ⟨?_, ?_, ?_⟩
      · rw [kMinP_ne (by decide) (by decide)]; exact z1
      · rw [show 16 + 2 = 18 from rfl, kMinP_18, if_pos hq, show σ 18 q = ρ 104 (5 + q) from z2, eg, (go_less hg).1, (go_less hg).2]
      · rw [show 16 + 3 = 19 from rfl, kMinP_19, if_pos hq, show σ 19 q = ρ 104 (10 + q) from z3]
    · intro d hd
      rw [fr (17 + d) (by omega), mMinV, if_neg (by omega), if_neg (by omega), kMin, gu_ne (by decide), kMinP_ne (by decide) (by decide)]
      exact x4 d hd
    · exact ⟨mi + 1, by omega, f15⟩
    · rw [f16]; exact y2
    · intro q hq
      obtain ⟨v1, v2, v3⟩ := vp q hq
      obtain ⟨z1, g, hg, eg⟩ := y3 q hq
      rw [fr q (by omega), fr (5 + q) (by omega), v1, v2, eg, (go_less hg).2]
      exact ⟨z1, g - 1, by omega, rfl⟩
    · intro d hd
      rw [fr (17 + d) (by omega), mMinV, if_neg (by omega), if_neg (by omega)]
      exact y4 d hd
  · rw [f16, fc 96 (by decide)]; exact h25
  · rw [es, em']
    have : 2 ^ N ≤ 256 := two8 (by omega)
    exact kBC_ones m (by omega)
theorem pass_all {σ ρ : gSt} {P N D w f u j hd t mi : Nat} (h : Rel σ ρ P N D w f u j hd t) (hmi : ρ 104 15 = nI mi) (h25 : ρ 96 25 = ρ 104 16) : ∀ n, mi + n ≤ 240 → Rel (kPassS σ D N n) (mPassS ρ D N n) P N D w f u j hd t ∧ mPassS ρ D N n 104 15 = nI (mi + n) ∧ mPassS ρ D N n 96 25 = mPassS ρ D N n 104 16 ∧ kPassR σ D N n = mPassR ρ D N n
  | 0, _ => ⟨h, hmi, h25, rfl⟩
  | n + 1, hn => by
    obtain ⟨a, b, c, d⟩ := pass_all h hmi h25 n (by omega)
    obtain ⟨a', b', c', d'⟩ := min_step a b (by omega) c
    exact ⟨a', b', c', by rw [kPassR, mPassR, d, d']⟩
theorem p_passes {σ ρ : gSt} {P N D w f u j hd t : Nat} (h : Rel σ ρ P N D w f u j hd t) (a0 : Int32) : kA_passes σ a0 D N j u = mA_passes ρ a0 D N u ∧ RelE (kS_passes σ a0 D N j u) (mS_passes ρ a0 D N u) := by
  simp only [kA_passes, mA_passes, kS_passes, mS_passes, g_in]
  by_cases c : mIn a0 1 240 = true
  · simp only [if_pos c]
    obtain ⟨k, hk0, hk, e, e2⟩ := mIn_k (m := 1) (n := 240) rfl rfl (by decide) (by decide) c
    obtain ⟨mi, hmi2, hmi⟩ := h.mo.2.1
    rw [show σ 16 0 = ρ 104 15 from h.mo.1.1]
    by_cases d : ρ 104 15 + a0 ≤ 240
    · simp only [if_pos d, e2]
      rw [hmi, e, nI_add, show (240 : Int32) = nI 240 from rfl, nI_leI (by omega) (by omega)] at d
      have hr : Rel (kRem σ j u) (mNowS (mNotes ρ u)) P N D w f (min (u + 1) 10) ((j + 1) % 10) hd t := Rel_25 (rem_rel h)
      have e104 : mNowS (mNotes ρ u) 104 = ρ 104 := by rw [mNowS, gu_ne (by decide), mNotes_ne (by decide) (by decide)]
      obtain ⟨a, _, _, b⟩ := pass_all hr (mi := mi) (by rw [e104]; exact hmi) (by rw [e104, mNowS, gu_at, if_pos ⟨rfl, rfl⟩, mNotes_ne (by decide) (by decide)]) k (by omega)
      exact ⟨b, RelE_of a⟩
    · simp only [if_neg d, true_and]
      exact RelE_of h
  · simp only [if_neg c, true_and]
    exact RelE_of h
