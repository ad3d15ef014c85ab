theorem due_away {σ ρ : gSt} {P N D w f u j hd t : Nat} (h : Rel σ ρ P N D w f u j hd t) {mi : Nat} (hmi : mi < 240) (p : Int32) : sDueAt σ p (nI mi) D = 0 ↔ mRung ρ (ρ 104 16) p (nI mi) (-9) D = false := by
  have hD := h.bd.2.2.2.1
  have hP := h.bd.2.1
  have e2 : ∀ d, d < 32 → ((ρ 104 16 >>> (nI d &&& 31)) &&& 1 = 0) = (tb (ρ 104 16) d = false) := fun d hd => kBit_0 (x := ρ 104 16) (k := d) hd
  have hpl : ∀ d, d < D → ∃ a, a < 32 ∧ σ 13 d = nI a := by
    intro d hd
    obtain ⟨⟨q1, _, _⟩, ⟨a, ha, ea⟩, _⟩ := h.pl.2.2.2.2 d hd
    exact ⟨a, by omega, q1.trans ea⟩
  have k1 : σ 16 1 = ρ 104 16 := h.mo.1.2.1
  rw [← Bool.not_eq_true, ← Decidable.not_iff_not, Decidable.not_not, tb_ne0, mRung, rRung_iff]
  constructor
  · rintro ⟨k, hk, x⟩
    rw [sDueAt, tb_kDueAt D (by omega) hpl, k1] at x
    obtain ⟨d, hd, ⟨a1, a2⟩, a3, _⟩ := x
    rw [kDue_on h hmi hd, Bool.and_eq_true, Bool.not_eq_true'] at a2
    refine ⟨d, hd, ?_⟩
    rw [rDue]
    simp only [Bool.and_eq_true, decide_eq_true_eq, e2 d (by omega), Bool.not_eq_true', decide_eq_false_iff_not]
    refine ⟨(h.mo.1.2.2.2 d hd).symm.trans a1, a2.1, a2.2, ?_⟩
    rw [← (h.pl.2.2.2.2 d hd).1.1, a3]
    exact nI_m9 (by omega)
  · rintro ⟨d, hd, x⟩
    rw [rDue] at x
    simp only [Bool.and_eq_true, decide_eq_true_eq, e2 d (by omega), Bool.not_eq_true', decide_eq_false_iff_not] at x
    obtain ⟨x1, x2, x3, x4⟩ := x
    obtain ⟨k, hk, ek⟩ := hpl d hd
    refine ⟨k, hk, ?_⟩
    rw [sDueAt, tb_kDueAt D (by omega) hpl, k1]
    refine ⟨d, hd, ⟨(h.mo.1.2.2.2 d hd).trans x1, ?_⟩, ek, hk⟩
    rw [kDue_on h hmi hd, x2]; exact x3
theorem rg_there {σ ρ : gSt} {P N D w f u j hd t : Nat} (h : Rel σ ρ P N D w f u j hd t) {mi : Nat} (hmi : mi < 240) (p : Int32) {a : Nat} (ha : a < 32) : kRg (sDueAt σ p (nI mi) D) a = if mRung ρ (ρ 104 16) p (nI mi) (nI a) D = true then 1 else 0 := by
  rw [← rungAt_eq h hmi p ha, kRg, sRungAt, kRAt]
  by_cases c : sDueAt σ p (nI mi) D &&& (1 <<< (nI a &&& 31) ^^^ -1) = 0
  · rw [if_pos c, decide_eq_true c]; rfl
  · rw [if_neg c, decide_eq_false c]; rfl
theorem to_eq {f g : Nat → Int32} {c own : Int32} : ∀ n t, (∀ k, t ≤ k → k < t + n → f k = g k) → (∃ k, t ≤ k ∧ k < t + n ∧ g k = c) → kTo f c own n t = rTo g c n t
  | 0, t, _, h => by obtain ⟨k, a, b, _⟩ := h; omega
  | n + 1, t, h1, h2 => by
    rw [kTo, rTo, h1 t (by omega) (by omega)]
    split
    · rfl
    · rename_i z
      refine to_eq n (t + 1) (fun k a b => h1 k (by omega) (by omega)) ?_
      obtain ⟨k, a, b, e⟩ := h2
      refine ⟨k, ?_, by omega, e⟩
      rcases Nat.lt_or_ge t k with q | q
      · omega
      · rw [show k = t by omega] at e; exact absurd e z
/-- the reference finds a place -/
theorem least_ex {σ ρ : gSt} {P N D w f u j hd t mi p a : Nat} (h : Rel σ ρ P N D w f u j hd t) (hmi : mi < 240) (a0 : Int32) (ha : a < P) : ∃ t2, t2 < P ∧ mCost ρ (ρ 104 16) a0 (mMeas ρ (ρ 104 16) a0 D w P (240 - mi)) D w mi a t2 = mMeas ρ (ρ 104 16) a0 D w P (240 - mi) (6 * mi + a) := by
  have bd := h.bd
  have hw := bd.2.2.2.2.1
  have hP := bd.2.1
  have inv := rMeas_inv (A := mAway ρ (ρ 104 16) a0 D) (Q := mThere ρ (ρ 104 16) a0 D) (co := ρ 111) (wk := w) (L := P) hw hP (240 - mi) (by omega)
  obtain ⟨t2, ht2, e⟩ := fF_ex (A := mAway ρ (ρ 104 16) a0 D) (Q := mThere ρ (ρ 104 16) a0 D) hw ha hmi
  refine ⟨t2, ht2, ?_⟩
  rw [mCost, rCost_N hw hmi ha ht2 (fun b => fF_240 (Nat.le_refl _)) (fun m' b h1 h2 hb => inv m' b (by omega) h2 hb), e, mMeas, inv mi a (by omega) (by omega) ha]
theorem kW2_80 {S : gSt} {wk L m x : Nat} (hm : m < 240) (hx : 1440 ≤ x) : ∀ a, a ≤ 6 → kW2 S wk L m a 80 x = S 80 x
  | 0, _ => rfl
  | a + 1, h => by rw [kW2, gu_at, if_neg (by omega), kW2_80 hm hx a (by omega)]
theorem kWS_80 {σ : gSt} {p : Int32} {D wk L x : Nat} (hL : L ≤ 6) (hx : 1440 ≤ x) : ∀ j, kWS σ p D wk L j 80 x = σ 80 x
  | 0 => rfl
  | j + 1 => by rw [kWS, kW2_80 (by omega) hx L hL, kW1, gu_ne (by decide), gu_ne (by decide), kWS_80 hL hx j]
theorem Rel_111 {σ ρ ρ' : gSt} {P N D w f u j hd t : Nat} (h : Rel σ ρ P N D w f u j hd t) (h2 : ∀ c, c ≠ 111 → ρ' c = ρ c) : Rel σ ρ' P N D w f u j hd t :=
  ⟨rPlan_cg h.pl (fun _ _ _ => rfl) (fun c _ _ => h2 c (by omega)), mRel_cg h.mo (fun _ _ _ => rfl) (fun k _ => by rw [h2 104 (by omega)]) h.bd.2.2.1 h.bd.2.2.2.1, rUndo_cg h.un h.bd.2.2.1 h.bd.2.2.2.1 (fun _ _ _ => rfl) (h2 107 (by omega)) (by rw [h2 96 (by omega)]), rImg_cg h.im h.bd.2.2.1 h.bd.2.2.2.1 (fun _ _ _ => rfl) (h2 105 (by omega)) (h2 106 (by omega)), rHeard_cg h.he (fun _ _ _ => rfl) (fun c _ _ => h2 c (by omega)) (by rw [h2 96 (by omega)]), rText_cg h.tx rfl rfl (h2 97 (by omega)) (by rw [h2 96 (by omega)]), h.ze⟩
theorem p_least {σ ρ : gSt} {P N D w f u j hd t mi : Nat} (h : Rel σ ρ P N D w f u j hd t) (hmi : ρ 104 15 = nI mi) (hm2 : mi ≤ 240) (a0 a1 : Int32) : kA_least σ a0 a1 D N w P mi = mA_least ρ a0 a1 D N w P mi ∧ RelE (kS_least σ a0 a1 D N w P mi) (mS_least ρ a0 a1 D N w P mi) := by
  have bd := h.bd
  have hw := bd.2.2.2.2.1
  have hP := bd.2.1
  have hN := bd.2.2.1
  have hD := bd.2.2.2.1
  have kin := kWS_inv (σ := σ) (p := a0) (D := D) (wk := w) (L := P) (A := mAway ρ (ρ 104 16) a0 D) (Q := mThere ρ (ρ 104 16) a0 D) hw hP h.ze (fun m hm => due_away h hm a0) (fun m a hm ha => rg_there h hm a0 (by omega)) (240 - mi) (by omega)
  constructor
  · simp only [kA_least, mA_least, h.gp, is01]
    by_cases c : mIn a0 0 (ρ 98 1 - 1) = true ∧ mIn a1 0 1 = true
    · simp only [if_pos c]
      obtain ⟨p, hp, e0, e1⟩ := h.per c.1
      obtain ⟨b, _, hb, f0, f1⟩ := mIn_k (m := 0) (n := 1) rfl rfl (by decide) (by decide) c.2
      obtain ⟨m1, m2, _⟩ := h.mo.1.2.2.1 p hp
      obtain ⟨⟨a, ha, ea⟩, ⟨g, hg, eg⟩⟩ := h.mo.2.2.2.1 p hp
      have k1 : σ 17 p = nI a := m1.trans ea
      have k2 : σ 18 p = nI g := m2.trans eg
      rw [e1]
      simp only [k1, k2, ea, eg, nI_clamp (show a < 2 ^ 31 by omega), nI_clamp (show g < 2 ^ 31 by omega)]
      have inv := rMeas_inv (A := mAway ρ (ρ 104 16) a0 D) (Q := mThere ρ (ρ 104 16) a0 D) (co := ρ 111) (wk := w) (L := P) hw hP (240 - mi) (by omega)
      obtain ⟨i1, i2, i3, i4⟩ := kin
      have ka : kArr (kWS σ a0 D w P (240 - mi) 79) (kWS σ a0 D w P (240 - mi) 80) mi g a = nI (gN (mAway ρ (ρ 104 16) a0 D) (fF (mAway ρ (ρ 104 16) a0 D) (mThere ρ (ρ 104 16) a0 D) w P) mi g a) := kArr_N hm2 (i2 mi (by omega) hm2) (i2 _ (by omega) (by omega)) (i3 _ a (by omega) (by omega) ha)
      rw [ka]
      by_cases m240 : mi = 240
      · subst m240
        simp only [if_true, Nat.le_refl, or_true]
        rw [gN, show min 240 (240 + g) = 240 by omega, fF_240 (Nat.le_refl _)]
        rfl
      · have hm : mi < 240 := by omega
        simp only [if_neg m240]
        have b01 : b = 0 ∨ b = 1 := by omega
        by_cases g0 : g ≤ 0
        · have g0' : g = 0 := by omega
          subst g0'
          have e3 : gN (mAway ρ (ρ 104 16) a0 D) (fF (mAway ρ (ρ 104 16) a0 D) (mThere ρ (ρ 104 16) a0 D) w P) mi 0 a = fF (mAway ρ (ρ 104 16) a0 D) (mThere ρ (ρ 104 16) a0 D) w P mi a := by
            rw [gN, show min 240 (mi + 0) = mi by omega, Nat.sub_self, show wN (mAway ρ (ρ 104 16) a0 D) mi 0 = 0 from rfl, Nat.zero_add]
          have e4 : mMeas ρ (ρ 104 16) a0 D w P (240 - mi) (6 * mi + a) = nI (fF (mAway ρ (ρ 104 16) a0 D) (mThere ρ (ρ 104 16) a0 D) w P mi a) := inv mi a (by omega) hm2 ha
          rw [e3, if_pos (Nat.le_refl 0), e4]
          by_cases z : a1 = 0
          · rw [if_pos z, if_pos z]
          · rw [if_neg z, if_neg z, if_neg (by omega)]
            refine to_eq P 0 (fun k _ hk => ?_) ?_
            · have hk' : k < P := by omega
              rw [sTolls, kTolls_N (A := mAway ρ (ρ 104 16) a0 D) (Q := mThere ρ (ρ 104 16) a0 D) (F := fF (mAway ρ (ρ 104 16) a0 D) (mThere ρ (ρ 104 16) a0 D) w P) hw hm ha hk' (by rw [i4 mi (by omega) hm]; exact rg_there h hm a0 (by omega)) (fun m' x y => i2 m' (by omega) y) (fun m' b x y hb => i3 m' b (by omega) y hb)]
              rw [mCost, rCost_N hw hm ha hk' (fun b => fF_240 (Nat.le_refl _)) (fun m' b h1 h2 hb => inv m' b (by omega) h2 hb)]
            · obtain ⟨t2, ht2, e⟩ := least_ex (p := p) h hm a0 ha
              exact ⟨t2, by omega, by omega, e.trans e4⟩
        · rw [if_neg g0]
          rcases b01 with q | q <;> subst q <;> rw [f0]
          · rw [if_pos (by decide), if_neg (by decide), mOnW, rOnW_N (F := fF (mAway ρ (ρ 104 16) a0 D) (mThere ρ (ρ 104 16) a0 D) w P) hm2 (fF_240 (Nat.le_refl _)) (fun q => inv _ a (by omega) (by omega) ha)]
          · rw [if_neg (by decide), if_pos (by omega), if_pos (by decide)]
    · simp only [if_neg c]
  · have r1 : Rel (kS_least σ a0 a1 D N w P mi) ρ P N D w f u j hd t := by
      rw [kS_least]
      split
      · obtain ⟨i1, i2, i3, i4⟩ := kin
        have hk : ∀ c, c < 78 ∨ 80 < c → kWS σ a0 D w P (240 - mi) c = σ c := fun c hc => i1 c (by omega) (by omega) (by omega)
        refine ⟨rPlan_cg h.pl (fun c _ _ => hk c (by omega)) (fun _ _ _ => rfl), mRel_cg h.mo (fun c _ _ => hk c (by omega)) (fun _ _ => rfl) hN hD, rUndo_cg h.un hN hD (fun c _ _ => hk c (by omega)) rfl rfl, rImg_cg h.im hN hD (fun c _ _ => hk c (by omega)) rfl rfl, rHeard_cg h.he (fun c _ _ => hk c (by omega)) (fun _ _ _ => rfl) rfl, rText_cg h.tx (by rw [hk 1 (by omega)]) (hk 2 (by omega)) rfl rfl, ?_, ?_⟩
        · rw [i2 240 (by omega) (by omega)]; rfl
        · intro k hk6
          rw [kWS_80 hP (by omega)]; exact h.ze.2 k hk6
      · exact h
    rw [mS_least]
    split
    · split
      · exact RelE_of r1
      · exact RelE_of (Rel_111 (Rel_25 (x := ρ 104 16) r1) (fun c hc => va_up_ne _ _ hc))
    · exact RelE_of r1
