/-! ===== the two readers, token by token ===== -/
/-- both have the text -/
def tCom (σ ρ : gSt) (t : Nat) : Prop := t ≤ 200 ∧ σ 1 1 = nI t ∧ ρ 96 3 = nI t ∧ ∀ k, k < t → σ 2 k = ρ 97 k ∧ ∃ c, c ≤ 255 ∧ ρ 97 k = nI c
def tPos (σ ρ : gSt) (t : Nat) : Prop := ∃ k, k ≤ t ∧ σ 1 7 = nI k ∧ ρ 96 4 = nI k
def tokR (k n r v : Int32) : Prop := (k = -1 ∧ r = 0) ∨ (k = -2 ∧ r = 2 ∧ n = v) ∨ (k = -3 ∧ r = 4) ∨ (k = 59 ∧ r = 3) ∨ (mIsL k = true ∧ r = 1 ∧ v = k)
def tWell (σ ρ : gSt) (t : Nat) : Prop := σ 1 3 = -9 ∧ ρ 96 8 = -1 ∧ tPos σ ρ t ∧ (∃ s, s ≤ t ∧ σ 1 5 = nI s ∧ ρ 96 6 = nI s) ∧ tokR (σ 1 4) (σ 1 6) (ρ 96 5) (ρ 96 7)
def tBad (σ ρ : gSt) : Prop := ∃ s, s ≤ 200 ∧ σ 1 3 = nI s ∧ ρ 96 8 = nI s
def tRel (σ ρ : gSt) (t : Nat) : Prop := tCom σ ρ t ∧ (tWell σ ρ t ∨ tBad σ ρ)
theorem rLet_cg {f g : Nat → Int32} {t : Nat} (h : ∀ k, k < t → f k = g k) (k : Nat) : rLet f t k = rLet g t k := by
  rw [rLet, rLet]
  split
  · rename_i c; exact h k c
  · rfl
theorem rSkip_cg {f g : Nat → Int32} {t : Nat} (h : ∀ k, k < t → f k = g k) : ∀ n k, rSkip f t n k = rSkip g t n k
  | 0, _ => rfl
  | n + 1, k => by rw [rSkip, rSkip, rLet_cg h k, rSkip_cg h n (k + 1)]
theorem rNumE_cg {f g : Nat → Int32} {t : Nat} (h : ∀ k, k < t → f k = g k) : ∀ n k, rNumE f t n k = rNumE g t n k
  | 0, _ => rfl
  | n + 1, k => by rw [rNumE, rNumE, rLet_cg h k, rNumE_cg h n (k + 1)]
theorem kNumV_cg {f g : Nat → Int32} {t : Nat} (h : ∀ k, k < t → f k = g k) : ∀ n v k, kNumV f t n v k = kNumV g t n v k
  | 0, _, _ => rfl
  | n + 1, v, k => by rw [kNumV, kNumV, rLet_cg h k, kNumV_cg h n _ (k + 1)]
/-- held just above the highest, or as it is behind it -/
def vR (v r : Nat) : Prop := (v ≤ 239 ∧ v = r) ∨ (v = 240 ∧ 240 ≤ r ∧ r ≤ 2400)
theorem numV_rel {g : Nat → Int32} {t : Nat} : ∀ n v r k, vR v r → ∃ v' r', vR v' r' ∧ kNumV g t n (nI v) k = nI v' ∧ rNumV g t n (nI r) k = nI r'
  | 0, v, r, k, h => ⟨v, r, h, rfl, rfl⟩
  | n + 1, v, r, k, h => by
    rw [kNumV, rNumV]
    by_cases c : mIn (rLet g t k) 48 57 = true
    · rw [if_pos c, if_pos c]
      obtain ⟨x, hx1, hx2, e, _⟩ := mIn_k (m := 48) (n := 57) rfl rfl (by decide) (by decide) c
      have hv : v ≤ 240 := by rcases h with q | q <;> omega
      have hr : r ≤ 2400 := by rcases h with q | q <;> omega
      have e1 : nI v * 10 + rLet g t k - 48 = nI (v * 10 + x - 48) := by
        rw [e, show (10 : Int32) = nI 10 from rfl, pk_mul, nI_add, show (48 : Int32) = nI 48 from rfl, pk_sub (by omega)]
      have e2 : 10 * nI r + rLet g t k - 48 = nI (10 * r + x - 48) := by
        rw [e, show (10 : Int32) = nI 10 from rfl, pk_mul, nI_add, show (48 : Int32) = nI 48 from rfl, pk_sub (by omega)]
      have e3 : (nI (v * 10 + x - 48) < 240) ↔ v * 10 + x - 48 < 240 := by
        rw [show (240 : Int32) = nI 240 from rfl, nI_ltI (by omega) (by omega)]
      have e4 : (nI r ≤ 239) ↔ r ≤ 239 := by
        rw [show (239 : Int32) = nI 239 from rfl, nI_leI (by omega) (by omega)]
      rw [e1, e2]
      rcases h with ⟨h1, h2⟩ | ⟨h1, h2, h3⟩
      · subst h2
        rw [if_pos (e4.mpr h1)]
        by_cases d : v * 10 + x - 48 < 240
        · rw [if_pos (e3.mpr d), show 10 * v + x - 48 = v * 10 + x - 48 by omega]
          exact numV_rel n _ _ (k + 1) (Or.inl ⟨by omega, rfl⟩)
        · rw [if_neg (fun z => d (e3.mp z)), show (240 : Int32) = nI 240 from rfl]
          exact numV_rel n _ _ (k + 1) (Or.inr ⟨rfl, by omega, by omega⟩)
      · rw [if_neg (fun z => by have := e3.mp z; omega), if_neg (fun z => by have := e4.mp z; omega), show (240 : Int32) = nI 240 from rfl]
        exact numV_rel n _ _ (k + 1) (Or.inr ⟨rfl, h2, h3⟩)
    · rw [if_neg c, if_neg c]
      exact ⟨v, r, h, rfl, rfl⟩
