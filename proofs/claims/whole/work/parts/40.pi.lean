/-! ===== the two readers: a duty, the item, the whole text ===== -/
theorem mDst_ne {c o x : Nat} {a b : Int32} {t : Nat} {S : gSt} (h1 : x ≠ c) (h2 : x ≠ 96) : mDst c o a b t S x = S x := by
  rw [mDst, gu_ne h1, mNumS_ne h2]
theorem mDst_o {c o j : Nat} {a b : Int32} {t : Nat} {S : gSt} (h : c ≠ 96) (h3 : j ≠ 8) (h4 : j ≠ 4) (h5 : j ≠ 5) (h6 : j ≠ 6) (h7 : j ≠ 7) : mDst c o a b t S 96 j = S 96 j := by
  rw [mDst, gu_ne (Ne.symm h)]; exact mTake_o h3 h4 h5 h6 h7
theorem mDst_row {c o : Nat} {a b : Int32} {t : Nat} {S : gSt} (h : c ≠ 96) (j : Nat) : mDst c o a b t S c j = if j = o then mNumR S a b else S c j := by
  rw [mDst, gu_at, mNumS_ne h]
  by_cases g : j = o
  · rw [if_pos ⟨rfl, g⟩, if_pos g]
  · rw [if_neg (fun z => g z.2), if_neg g]
/-- a number is put into a row of the reference's draft, the class keeps it -/
theorem dst_rel {σ ρ : gSt} {t c o : Nat} {a b : Int32} (hc : c ≠ 96) (hc2 : c ≠ 97) (h : tRel σ ρ t) : tRel (kNumS σ t a b) (mDst c o a b t ρ) t ∧ (kNumS σ t a b 1 3 = -9 → tWell σ ρ t ∧ kNumR σ a b = mNumR ρ a b ∧ mIn (mNumR ρ a b) a b = true) := by
  obtain ⟨n1, n2⟩ := num_rel (a := a) (b := b) h
  exact ⟨tRel_cg n1 (fun _ _ => rfl) rfl (fun j _ _ => by rw [mDst, gu_ne (Ne.symm hc)]) (by rw [mDst, gu_ne (Ne.symm hc2)]), n2⟩
theorem it_duty {σ ρ : gSt} {P N D w f i t : Nat} (h : tRel σ ρ t) (q : tWell σ ρ t) (hd : tDr σ ρ P N D w f i) (h5 : ρ 96 5 = 1) (h7 : ρ 96 7 = 100) : tOut (kDutyS σ t) (mS2 ρ t i) t (i + 1) := by
  have hm := may_dd (i := i) h5 h7
  have eN : σ 3 1 = nI N := hd.2.2.1.2.1
  have eP : σ 3 0 = nI P := hd.2.2.1.1
  have eD : σ 3 2 = nI D := hd.2.2.1.2.2.1
  have eD' : ρ 98 7 = nI D := hd.2.2.2.1.2.2.1
  have bd := hd.1
  have hP := bd.1
  have hP6 := bd.2.1
  have hN5 := bd.2.2.1
  have hD8 := bd.2.2.2.1
  obtain ⟨r1, r2⟩ := word_rel (b := !decide (8 ≤ σ 3 2)) (b' := mB1 ρ i) h (fun _ => by rw [hm, eD, eD'])
  have dw := tDr_word (t := t) (b := !decide (8 ≤ σ 3 2)) (b' := mB1 ρ i) hd
  unfold kDutyS
  rw [show kD5 σ t = kNumS (kD4 σ t) t 1 60 from rfl, show kD4 σ t = kNumS (kD3 σ t) t 0 239 from rfl, show kD3 σ t = kNumS (kD2 σ t) t 0 (σ 3 0 - 1) from rfl, show kD2 σ t = kNumS (kD1 σ t) t 0 (σ 3 1 - 1) from rfl, show kD1 σ t = kWordS σ t (!decide (8 ≤ σ 3 2)) from rfl]
  by_cases c : kWordS σ t (!decide (8 ≤ σ 3 2)) 1 3 = -9
  · obtain ⟨-, hb⟩ := r2 c
    have hDl : D < 8 := by
      rw [eD] at hb
      rcases Nat.lt_or_ge D 8 with y | y
      · exact y
      · rw [decide_eq_true (show (8 : Int32) ≤ nI D from nI_le (a := 8) y (by omega))] at hb
        exact absurd hb (by decide)
    rw [mS2_well (r1.well c).n.2 q.n.2 (by rw [hm, eD', ← eD]; exact hb) h7, item_d]
    have x1 : d2 σ = D := by show (σ 3 2).toNatClampNeg = D; rw [eD, nI_clamp (by omega)]
    rw [x1, eN, eP, eD]
    rw [eD] at r1 dw c
    generalize kWordS σ t (!decide (8 ≤ nI D)) = K at *
    generalize mTakeS ρ t (mB1 ρ i) = M at *
    have x2 : q7 M = D := by show (M 98 7).toNatClampNeg = D; rw [dw.2.2.2.1.2.2.1, nI_clamp (by omega)]
    have x3 : M 98 5 = nI P := dw.2.2.2.1.1
    have x6 : M 98 6 = nI N := dw.2.2.2.1.2.1
    rw [duty_98, dw.2.2.2.1.2.2.1, nI_1, mDutyT, x2, x3, x6]
    have x4 : nI P - 1 = nI (P - 1) := by rw [show (1 : Int32) = nI 1 from rfl, pk_sub (by omega)]
    obtain ⟨n1, m1⟩ := dst_rel (c := 100) (o := D) (a := 0) (b := nI N - 1) (by decide) (by decide) r1
    obtain ⟨n2, m2⟩ := dst_rel (c := 101) (o := 8 + D) (a := 0) (b := nI P - 1) (by decide) (by decide) n1
    obtain ⟨n3, m3⟩ := dst_rel (c := 102) (o := 8 + D) (a := 0) (b := 239) (by decide) (by decide) n2
    obtain ⟨n4, m4⟩ := dst_rel (c := 103) (o := 8 + D) (a := 1) (b := 60) (by decide) (by decide) n3
    have kne : ∀ c, c ≠ 1 → kNumS (kNumS (kNumS (kNumS K t 0 (nI N - 1)) t 0 (nI P - 1)) t 0 239) t 1 60 c = K c := fun c hc => by
      rw [kNumS_ne hc, kNumS_ne hc, kNumS_ne hc, kNumS_ne hc]
    have ko8 : kNumS (kNumS (kNumS (kNumS K t 0 (nI N - 1)) t 0 (nI P - 1)) t 0 239) t 1 60 1 8 = K 1 8 := by
      rw [kNum_o (by decide) (by decide) (by decide) (by decide) (by decide), kNum_o (by decide) (by decide) (by decide) (by decide) (by decide), kNum_o (by decide) (by decide) (by decide) (by decide) (by decide), kNum_o (by decide) (by decide) (by decide) (by decide) (by decide)]
    have ko9 : kNumS (kNumS (kNumS (kNumS K t 0 (nI N - 1)) t 0 (nI P - 1)) t 0 239) t 1 60 1 9 = K 1 9 := by
      rw [kNum_o (by decide) (by decide) (by decide) (by decide) (by decide), kNum_o (by decide) (by decide) (by decide) (by decide) (by decide), kNum_o (by decide) (by decide) (by decide) (by decide) (by decide), kNum_o (by decide) (by decide) (by decide) (by decide) (by decide)]
    by_cases z : kNumS (kNumS (kNumS (kNumS K t 0 (nI N - 1)) t 0 (nI P - 1)) t 0 239) t 1 60 1 3 = -9
    · rw [if_pos z]
      obtain ⟨w4, y4, i4⟩ := m4 z
      obtain ⟨w3, y3, i3⟩ := m3 w4.1
      obtain ⟨w2, y2, i2⟩ := m2 w3.1
      obtain ⟨w1, y1, i1⟩ := m1 w2.1
      have hN1 : 1 ≤ N := by
        rcases Nat.eq_zero_or_pos N with e | e
        · subst e
          have : ∀ x : Int32, ¬ mIn x 0 (nI 0 - 1) = true := by
            intro x hx
            simp only [mIn, Bool.and_eq_true, Bool.not_eq_true', decide_eq_false_iff_not] at hx
            obtain ⟨u1, u2⟩ := hx
            rw [Int32.lt_iff_toInt_lt] at u1 u2
            rw [show (nI 0 - 1 : Int32).toInt = -1 from by decide] at u2
            rw [show (0 : Int32).toInt = 0 from by decide] at u1
            omega
          exact absurd i1 (this _)
        · exact e
      have x5 : nI N - 1 = nI (N - 1) := by rw [show (1 : Int32) = nI 1 from rfl, pk_sub (by omega)]
      obtain ⟨v1, -, hv1, f1, -⟩ := mIn_k (m := 0) (n := N - 1) rfl x5 (by omega) (by decide) i1
      obtain ⟨v2, -, hv2, f2, -⟩ := mIn_k (m := 0) (n := P - 1) rfl x4 (by omega) (by decide) i2
      obtain ⟨v3, -, hv3, f3, -⟩ := mIn_k (m := 0) (n := 239) rfl rfl (by omega) (by decide) i3
      obtain ⟨v4, -, hv4, f4, -⟩ := mIn_k (m := 1) (n := 60) rfl rfl (by omega) (by decide) i4
      have g0 : ∀ j, mDst 103 (8 + D) 1 60 t (mDst 102 (8 + D) 0 239 t (mDst 101 (8 + D) 0 (nI P - 1) t (mDst 100 D 0 (nI N - 1) t M))) 100 j = if j = D then nI v1 else M 100 j := fun j => by
        rw [mDst_ne (by decide) (by decide), mDst_ne (by decide) (by decide), mDst_ne (by decide) (by decide), mDst_row (by decide), f1]
      have g1 : ∀ j, mDst 103 (8 + D) 1 60 t (mDst 102 (8 + D) 0 239 t (mDst 101 (8 + D) 0 (nI P - 1) t (mDst 100 D 0 (nI N - 1) t M))) 101 j = if j = 8 + D then nI v2 else M 101 j := fun j => by
        rw [mDst_ne (by decide) (by decide), mDst_ne (by decide) (by decide), mDst_row (by decide), mDst_ne (by decide) (by decide), f2]
      have g2 : ∀ j, mDst 103 (8 + D) 1 60 t (mDst 102 (8 + D) 0 239 t (mDst 101 (8 + D) 0 (nI P - 1) t (mDst 100 D 0 (nI N - 1) t M))) 102 j = if j = 8 + D then nI v3 else M 102 j := fun j => by
        rw [mDst_ne (by decide) (by decide), mDst_row (by decide), mDst_ne (by decide) (by decide), mDst_ne (by decide) (by decide), f3]
      have g3 : ∀ j, mDst 103 (8 + D) 1 60 t (mDst 102 (8 + D) 0 239 t (mDst 101 (8 + D) 0 (nI P - 1) t (mDst 100 D 0 (nI N - 1) t M))) 103 j = if j = 8 + D then nI v4 else M 103 j := fun j => by
        rw [mDst_row (by decide), mDst_ne (by decide) (by decide), mDst_ne (by decide) (by decide), mDst_ne (by decide) (by decide), f4]
      have g4 : ∀ j, mDst 103 (8 + D) 1 60 t (mDst 102 (8 + D) 0 239 t (mDst 101 (8 + D) 0 (nI P - 1) t (mDst 100 D 0 (nI N - 1) t M))) 98 j = M 98 j := fun j => by
        rw [mDst_ne (by decide) (by decide), mDst_ne (by decide) (by decide), mDst_ne (by decide) (by decide), mDst_ne (by decide) (by decide)]
      have g5 : ∀ j, mDst 103 (8 + D) 1 60 t (mDst 102 (8 + D) 0 239 t (mDst 101 (8 + D) 0 (nI P - 1) t (mDst 100 D 0 (nI N - 1) t M))) 99 j = M 99 j := fun j => by
        rw [mDst_ne (by decide) (by decide), mDst_ne (by decide) (by decide), mDst_ne (by decide) (by decide), mDst_ne (by decide) (by decide)]
      have g6 : mDst 103 (8 + D) 1 60 t (mDst 102 (8 + D) 0 239 t (mDst 101 (8 + D) 0 (nI P - 1) t (mDst 100 D 0 (nI N - 1) t M))) 96 10 = M 96 10 := by
        rw [mDst_o (by decide) (by decide) (by decide) (by decide) (by decide) (by decide), mDst_o (by decide) (by decide) (by decide) (by decide) (by decide) (by decide), mDst_o (by decide) (by decide) (by decide) (by decide) (by decide) (by decide), mDst_o (by decide) (by decide) (by decide) (by decide) (by decide) (by decide)]
      rw [y1, y2, y3, y4, f1, f2, f3, f4]
      generalize kNumS (kNumS (kNumS (kNumS K t 0 (nI N - 1)) t 0 (nI P - 1)) t 0 239) t 1 60 = K5 at *
      generalize mDst 103 (8 + D) 1 60 t (mDst 102 (8 + D) 0 239 t (mDst 101 (8 + D) 0 (nI P - 1) t (mDst 100 D 0 (nI N - 1) t M))) = M5 at *
      refine ⟨tRel_cg n4 (fun j _ => ?_) ?_ (fun j _ _ => ?_) ?_, fun _ => ?_⟩
      · rw [gu_n (by omega), gu_n (by omega), gu_n (by omega), gu_n (by omega), gu_n (by omega)]
      · rw [gu_ne (by decide), gu_ne (by decide), gu_ne (by decide), gu_ne (by decide), gu_ne (by decide)]
      · rw [gu_n (by omega)]
      · rw [gu_ne (by decide)]
      obtain ⟨b1, b2, ⟨c1, c2, c3, c4, c5⟩, ⟨e1, e2, e3, e4, e5⟩, b5, b6, b7⟩ := dw
      have k3 : ∀ j, j ≠ 2 → gu (gu (gu (gu (gu K5 5 D (nI v1)) 6 D (nI v2)) 7 D (nI v3)) 8 D (nI v4)) 3 2 (nI (D + 1)) 3 j = K 3 j := fun j hj => by
        rw [gu_n (by omega), gu_n (by omega), gu_n (by omega), gu_n (by omega), gu_n (by omega), kne 3 (by decide)]
      have m8 : ∀ j, j ≠ 7 → gu M5 98 7 (nI (D + 1)) 98 j = M 98 j := fun j hj => by
        rw [gu_n (by omega), g4]
      refine ⟨P, N, D + 1, w, f, ⟨b1.1, b1.2.1, b1.2.2.1, by omega, b1.2.2.2.2⟩, fun z => absurd z (by omega), ⟨?_, ?_, gu_s, ?_, ?_⟩, ⟨?_, ?_, gu_s, ?_, ?_⟩, ?_, fun p hp => ?_, fun x hx => ?_⟩
      · rw [k3 0 (by decide)]; exact c1
      · rw [k3 1 (by decide)]; exact c2
      · rw [k3 3 (by decide)]; exact c4
      · rw [k3 4 (by decide)]; exact c5
      · rw [m8 5 (by decide)]; exact e1
      · rw [m8 6 (by decide)]; exact e2
      · rw [m8 8 (by decide)]; exact e4
      · rw [m8 9 (by decide)]; exact e5
      · obtain ⟨a', b', s1, s2, s3, s4, s5⟩ := b5
        refine ⟨a', b', s1, s2, ?_, ?_, ?_⟩
        · rw [gu_ne (by decide), gu_ne (by decide), gu_ne (by decide), gu_ne (by decide), gu_ne (by decide), ko8]; exact s3
        · rw [gu_ne (by decide), gu_ne (by decide), gu_ne (by decide), gu_ne (by decide), gu_ne (by decide), ko9]; exact s4
        · rw [gu_ne (by decide), g6]; exact s5
      · rw [gu_ne (by decide), gu_ne (by decide), gu_ne (by decide), gu_ne (by decide), gu_ne (by decide), gu_ne (by decide), g5, kne 4 (by decide)]
        exact b6 p hp
      · have l5 : gu (gu (gu (gu (gu K5 5 D (nI v1)) 6 D (nI v2)) 7 D (nI v3)) 8 D (nI v4)) 3 2 (nI (D + 1)) 5 x = if x = D then nI v1 else K 5 x := by
          rw [gu_ne (by decide), gu_ne (by decide), gu_ne (by decide), gu_ne (by decide), gu_at, kne 5 (by decide)]; simp
        have l6 : gu (gu (gu (gu (gu K5 5 D (nI v1)) 6 D (nI v2)) 7 D (nI v3)) 8 D (nI v4)) 3 2 (nI (D + 1)) 6 x = if x = D then nI v2 else K 6 x := by
          rw [gu_ne (by decide), gu_ne (by decide), gu_ne (by decide), gu_at, gu_ne (by decide), kne 6 (by decide)]; simp
        have l7 : gu (gu (gu (gu (gu K5 5 D (nI v1)) 6 D (nI v2)) 7 D (nI v3)) 8 D (nI v4)) 3 2 (nI (D + 1)) 7 x = if x = D then nI v3 else K 7 x := by
          rw [gu_ne (by decide), gu_ne (by decide), gu_at, gu_ne (by decide), gu_ne (by decide), kne 7 (by decide)]; simp
        have l8 : gu (gu (gu (gu (gu K5 5 D (nI v1)) 6 D (nI v2)) 7 D (nI v3)) 8 D (nI v4)) 3 2 (nI (D + 1)) 8 x = if x = D then nI v4 else K 8 x := by
          rw [gu_ne (by decide), gu_at, gu_ne (by decide), gu_ne (by decide), gu_ne (by decide), kne 8 (by decide)]; simp
        rw [l5, l6, l7, l8, gu_ne (by decide), gu_ne (by decide), gu_ne (by decide), gu_ne (by decide), g0, g1, g2, g3]
        by_cases g : x = D
        · rw [if_pos g, if_pos g, if_pos g, if_pos g, if_pos g, if_pos (by omega), if_pos (by omega), if_pos (by omega)]
          exact ⟨⟨rfl, rfl, rfl, rfl⟩, ⟨v1, by omega, rfl⟩, ⟨v2, by omega, rfl⟩, ⟨v3, by omega, rfl⟩, ⟨v4, hv4, rfl⟩⟩
        · rw [if_neg g, if_neg g, if_neg g, if_neg g, if_neg g, if_neg (by omega), if_neg (by omega), if_neg (by omega)]
          exact b7 x (by omega)
    · rw [if_neg z]
      exact ⟨tRel_cg n4 (fun j _ => rfl) rfl (fun j _ _ => by rw [gu_n (by omega)]) (by rw [gu_ne (by decide)]), fun y => absurd y z⟩
  · rw [mS2_bad (r1.bad c).n.2, kNumS_bad c, kNumS_bad c, kNumS_bad c, kNumS_bad c, if_neg c]
    exact tOut_bad r1 c rfl rfl rfl
