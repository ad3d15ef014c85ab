/-! ===== the two readers: a token ===== -/
theorem le_nlt {x b : Int32} : decide (x ≤ b) = !decide (b < x) := by
  rw [Bool.eq_iff_iff]
  simp only [decide_eq_true_eq, Bool.not_eq_true', decide_eq_false_iff_not, Int32.le_iff_toInt_le, Int32.lt_iff_toInt_lt]
  omega
theorem tokE_eq {g : Nat → Int32} {t K : Nat} (hK : K ≤ t) (hg : ∀ k, k < t → ∃ c, c ≤ 255 ∧ g k = nI c) : kTokE g t K = rTokE g t K := by
  unfold kTokE rTokE
  rcases Nat.lt_or_ge K t with q | q
  · obtain ⟨c, hc, e⟩ := hg K q
    have e2 : rLet g t K = nI c := by rw [rLet_lt q, e]
    have h0 : 0 ≤ rLet g t K := by rw [e2]; exact nI_pos' (by omega)
    rw [if_pos q, if_pos h0]
    obtain ⟨n, hn⟩ : ∃ n, t - K = n + 1 := ⟨t - K - 1, by omega⟩
    rw [hn, rNumE]
    by_cases d : mIn (rLet g t K) 48 57 = true
    · have := rNumE_le (tx := g) (t := t) n (K + 1) (by omega)
      rw [if_pos d, if_neg (by omega), if_pos d]
    · rw [if_neg d, if_pos (Nat.le_refl K), if_neg d]
  · have e : K = t := by omega
    subst e
    rw [if_neg (by omega), rLet_t, if_neg (by decide), Nat.sub_self, rNumE]
theorem kWord_eq (c : Int32) : kWord c = (mIsL c || decide (c = 59)) := rfl
theorem tok_rel {g : Nat → Int32} {t K : Nat} (v0 : Int32) (ht : t ≤ 200) (hK : K ≤ t) (hg : ∀ k, k < t → ∃ c, c ≤ 255 ∧ g k = nI c) : tokR (kTokK g t K) (kNumV g t (t - K) 0 K) (rTokK g t K) (rTokV g t K v0) := by
  unfold kTokK rTokK rTokV
  rcases Nat.lt_or_ge K t with q | q
  · obtain ⟨c, hc, e⟩ := hg K q
    have e2 : rLet g t K = nI c := by rw [rLet_lt q, e]
    have h0 : 0 ≤ rLet g t K := by rw [e2]; exact nI_pos' (by omega)
    rw [if_pos q, if_pos h0, if_pos h0]
    have hle := rNumE_le (tx := g) (t := t) (t - K) K (by omega)
    by_cases d : mIn (rLet g t K) 48 57 = true
    · have hgt : K < rNumE g t (t - K) K := by
        obtain ⟨n, hn⟩ : ∃ n, t - K = n + 1 := ⟨t - K - 1, by omega⟩
        rw [hn, rNumE, if_pos d]
        have := rNumE_le (tx := g) (t := t) n (K + 1) (by omega)
        omega
      rw [if_neg (by omega), if_pos d, if_pos d]
      obtain ⟨v', r', hv, e3, e4⟩ := numV_rel (g := g) (t := t) (t - K) 0 0 K (Or.inl ⟨by omega, rfl⟩)
      rw [nI_0] at e3 e4
      rw [e3, e4, e2, e]
      generalize rNumE g t (t - K) K = E at *
      have hv2 : v' ≤ 240 := by rcases hv with z | z <;> omega
      have hr2 : r' ≤ 2400 := by rcases hv with z | z <;> omega
      have a1 : (nI v' ≤ 239) ↔ v' ≤ 239 := by rw [show (239 : Int32) = nI 239 from rfl, nI_leI (by omega) (by omega)]
      have a2 : ((239 : Int32) < nI r') ↔ 239 < r' := by rw [show (239 : Int32) = nI 239 from rfl, nI_ltI (by omega) (by omega)]
      have a3 : nI E - nI K = nI (E - K) := pk_sub (by omega)
      have a4 : (nI (E - K) ≤ 1) ↔ E - K ≤ 1 := by rw [show (1 : Int32) = nI 1 from rfl, nI_leI (by omega) (by omega)]
      simp only [a1, a2, a3, a4]
      by_cases z : r' ≤ 239
      · have z1 : v' = r' := by rcases hv with y | y <;> omega
        subst z1
        rw [if_neg (show ¬ 239 < v' by omega)]
        by_cases w : nI c = 48
        · by_cases x : E - K ≤ 1
          · rw [if_neg (by simp [x]), if_pos z, if_pos w, if_pos x]
            exact Or.inr (Or.inl ⟨rfl, rfl, rfl⟩)
          · rw [if_pos (by simp [x, w]), if_pos w, if_neg x]
            exact Or.inr (Or.inr (Or.inl ⟨rfl, rfl⟩))
        · rw [if_neg (by simp [w]), if_pos z, if_neg w]
          exact Or.inr (Or.inl ⟨rfl, rfl, rfl⟩)
      · have z1 : ¬ v' ≤ 239 := by rcases hv with y | y <;> omega
        rw [if_pos (show 239 < r' by omega), if_neg z1]
        refine Or.inr (Or.inr (Or.inl ⟨?_, rfl⟩))
        split <;> rfl
    · have hE : rNumE g t (t - K) K = K := by
        obtain ⟨n, hn⟩ : ∃ n, t - K = n + 1 := ⟨t - K - 1, by omega⟩
        rw [hn, rNumE, if_neg d]
      rw [hE, if_pos (Nat.le_refl K), if_neg d, if_neg d, rLet_lt q, kWord_eq]
      by_cases w : g K = 59
      · rw [w]
        exact Or.inr (Or.inr (Or.inr (Or.inl ⟨by decide, rfl⟩)))
      · by_cases x : mIsL (g K) = true
        · rw [if_pos (by simp [x]), if_neg w, if_pos x]
          exact Or.inr (Or.inr (Or.inr (Or.inr ⟨x, rfl, rfl⟩)))
        · rw [if_neg (by simp [x, w]), if_neg w, if_neg x]
          exact Or.inr (Or.inr (Or.inl ⟨rfl, rfl⟩))
  · have e : K = t := by omega
    subst e
    rw [if_neg (by omega), rLet_t, if_neg (by decide)]
    exact Or.inl ⟨rfl, rfl⟩
theorem kadv_7 (S : gSt) (t : Nat) : kAdvS S t 1 7 = nI (kTokE (S 2) t (kK S t)) := by rw [kAdvS, kPS_at]; simp
theorem kadv_4 (S : gSt) (t : Nat) : kAdvS S t 1 4 = kTokK (S 2) t (kK S t) := by rw [kAdvS, kPS_at]; simp
theorem kadv_5 (S : gSt) (t : Nat) : kAdvS S t 1 5 = nI (kK S t) := by rw [kAdvS, kPS_at]; simp
theorem kadv_6 (S : gSt) (t : Nat) : kAdvS S t 1 6 = kNumV (S 2) t (t - kK S t) 0 (kK S t) := by rw [kAdvS, kPS_at]; simp
theorem tCom_kadv {σ ρ : gSt} {t : Nat} (h : tCom σ ρ t) : tCom (kAdvS σ t) ρ t := by
  obtain ⟨a, b, c, d⟩ := h
  exact ⟨a, by rw [kadv_o (by decide) (by decide) (by decide) (by decide)]; exact b, c, by rw [kAdvS_ne (by decide)]; exact d⟩
theorem tCom_madv {σ ρ : gSt} {t : Nat} (h : tCom σ ρ t) : tCom σ (mAdvS ρ t) t := by
  obtain ⟨a, b, c, d⟩ := h
  exact ⟨a, b, by rw [adv_o (by decide) (by decide) (by decide) (by decide)]; exact c, by rw [mAdvS_ne (by decide)]; exact d⟩
theorem adv_rel {σ ρ : gSt} {t : Nat} (hc : tCom σ ρ t) (hp : tPos σ ρ t) (hσ : σ 1 3 = -9) (hρ : ρ 96 8 = -1) : tWell (kAdvS σ t) (mAdvS ρ t) t := by
  obtain ⟨a, b, c, d⟩ := hc
  obtain ⟨k, k1, k2, k3⟩ := hp
  have hd : ∀ q, q < t → σ 2 q = ρ 97 q := fun q hq => (d q hq).1
  have hg : ∀ q, q < t → ∃ c, c ≤ 255 ∧ ρ 97 q = nI c := fun q hq => (d q hq).2
  have eK : kK σ t = mK ρ t := by
    rw [kK, mK, k2, k3, rSkip_cg hd]
  have hK : mK ρ t ≤ t := mK_le ⟨c, a, k, k1, k3⟩
  have e1 : kTokE (σ 2) t (mK ρ t) = kTokE (ρ 97) t (mK ρ t) := by
    unfold kTokE; rw [rNumE_cg hd]
  have e2 : kTokK (σ 2) t (mK ρ t) = kTokK (ρ 97) t (mK ρ t) := by
    unfold kTokK
    rw [rNumE_cg hd, kNumV_cg hd]
    split
    · next z => rw [hd _ z]
    · rfl
  have e3 : kNumV (σ 2) t (t - mK ρ t) 0 (mK ρ t) = kNumV (ρ 97) t (t - mK ρ t) 0 (mK ρ t) := kNumV_cg hd _ _ _
  refine ⟨?_, ?_, ?_, ?_, ?_⟩
  · rw [kadv_o (by decide) (by decide) (by decide) (by decide)]; exact hσ
  · rw [adv_o (by decide) (by decide) (by decide) (by decide)]; exact hρ
  · exact ⟨rTokE (ρ 97) t (mK ρ t), rTokE_le hK, by rw [kadv_7, eK, e1, tokE_eq hK hg], adv_4 ρ t⟩
  · exact ⟨mK ρ t, hK, by rw [kadv_5, eK], adv_6 ρ t⟩
  · rw [kadv_4, kadv_6, adv_5, adv_7, eK, e2, e3]
    exact tok_rel _ a hK hg
