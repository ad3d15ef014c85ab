/-! ===== bits of an int ===== -/
def tb (x : Int32) (k : Nat) : Bool := x.toBitVec.getLsbD k
theorem tb_ext {x y : Int32} (h : ∀ k, k < 32 → tb x k = tb y k) : x = y := by
  apply Int32.toBitVec_inj.mp
  apply BitVec.eq_of_getLsbD_eq
  intro i hi
  exact h i hi
theorem tb_hi {x : Int32} {k : Nat} (h : 32 ≤ k) : tb x k = false := by
  simp only [tb]
  exact BitVec.getLsbD_of_ge _ _ h
theorem tb_or (x y : Int32) (k : Nat) : tb (x ||| y) k = (tb x k || tb y k) := by simp [tb]
theorem tb_and (x y : Int32) (k : Nat) : tb (x &&& y) k = (tb x k && tb y k) := by simp [tb]
theorem tb_xor (x y : Int32) (k : Nat) : tb (x ^^^ y) k = (tb x k ^^ tb y k) := by simp [tb]
theorem tb_m1 : ∀ k, k < 32 → tb (-1) k = true := by decide
theorem tb_not {x : Int32} {k : Nat} (h : k < 32) : tb (x ^^^ -1) k = !tb x k := by rw [tb_xor, tb_m1 k h]; simp
theorem tb_0 (k : Nat) : tb 0 k = false := by simp [tb]
theorem tb_nI {n k : Nat} (h : k < 32) : tb (nI n) k = n.testBit k := by
  have : (nI n).toBitVec = BitVec.ofNat 32 n := rfl
  simp only [tb, this, BitVec.getLsbD_ofNat, h, decide_true, Bool.true_and]
theorem one_sh : ∀ k, k < 32 → ((1 : Int32) <<< (nI k &&& 31)).toBitVec = 1#32 <<< k := by decide
theorem sh_amt : ∀ k, k < 32 → ((nI k &&& 31).toBitVec.smod 32).toNat = k := by decide
theorem tb_one {k : Nat} (hk : k < 32) (j : Nat) : tb ((1 : Int32) <<< (nI k &&& 31)) j = decide (j = k) := by
  rcases Nat.lt_or_ge j 32 with hj | hj
  · simp only [tb, one_sh k hk, BitVec.getLsbD_shiftLeft, hj, decide_true, Bool.true_and]
    rcases Nat.lt_trichotomy j k with q | q | q
    · simp [q, Nat.ne_of_lt q]
    · subst q; simp
    · have h1 : ¬ j < k := by omega
      have h2 : ¬ j = k := by omega
      have h3 : ¬ j - k = 0 := by omega
      simp [h1, h2, BitVec.getLsbD_one, h3]
  · rw [tb_hi hj]
    have : ¬ j = k := by omega
    simp [this]
theorem tb_shr {x : Int32} {k : Nat} (hk : k < 32) : (x >>> (nI k &&& 31)).toBitVec = x.toBitVec.sshiftRight k := by
  rw [Int32.toBitVec_shiftRight, BitVec.sshiftRight', sh_amt k hk]
theorem kBit_tb {x : Int32} {k : Nat} (hk : k < 32) : kBit x (nI k) = bI (tb x k) := by
  apply tb_ext
  intro j hj
  rw [kBit, tb_and]
  rcases Nat.eq_zero_or_pos j with q | q
  · subst q
    have h1 : tb 1 0 = true := by decide
    rw [h1]
    simp only [tb, tb_shr hk, BitVec.getLsbD_sshiftRight, Bool.and_true]
    simp only [Nat.add_zero, hk, if_true]
    cases hx : x.toBitVec.getLsbD k <;> simp [bI, hx]
  · have h1 : ∀ j, j < 32 → 0 < j → tb 1 j = false := by decide
    rw [h1 j hj q, Bool.and_false]
    cases tb x k
    · rw [bI_f, tb_0]
    · rw [bI_t, h1 j hj q]
theorem kBit_1 {x : Int32} {k : Nat} (hk : k < 32) : (kBit x (nI k) = 1) = (tb x k = true) := by rw [kBit_tb hk, bI_eq1]
theorem kBit_0 {x : Int32} {k : Nat} (hk : k < 32) : (kBit x (nI k) = 0) = (tb x k = false) := by rw [kBit_tb hk, bI_eq0]
theorem tb_ne0 {x : Int32} : ¬ x = 0 ↔ ∃ k, k < 32 ∧ tb x k = true := by
  constructor
  · intro h
    rcases Classical.em (∃ k, k < 32 ∧ tb x k = true) with q | q
    · exact q
    · refine absurd (tb_ext (y := 0) ?_) h
      intro k hk
      rw [tb_0]
      cases hx : tb x k
      · rfl
      · exact absurd ⟨k, hk, hx⟩ q
  · rintro ⟨k, _, h⟩ rfl
    rw [tb_0] at h
    exact absurd h (by decide)
/-- the low n bits as a number -/
theorem nat_of_low {x : Int32} {n : Nat} (hn : n ≤ 8) (h : ∀ k, k < 32 → tb x k = true → k < n) : ∃ m, m < 2 ^ n ∧ x = nI m := by
  refine ⟨x.toBitVec.toNat, ?_, ?_⟩
  · apply Nat.lt_pow_two_of_testBit
    intro j hj
    rw [← BitVec.getLsbD]
    rcases Nat.lt_or_ge j 32 with q2 | q2
    · cases q : x.toBitVec.getLsbD j
      · rfl
      · exact absurd (h j q2 q) (by omega)
    · exact BitVec.getLsbD_of_ge _ _ q2
  · apply tb_ext
    intro k hk
    rw [tb_nI hk]
    rfl
theorem kBC_ones : ∀ n, n < 256 → kBC (nI n) = mOnes (nI n) 8 := by decide +kernel
