/-! ===== the two readers: an item ===== -/
theorem gu_n {σ : gSt} {i k c j : Nat} {x : Int32} (h : ¬ (c = i ∧ j = k)) : gu σ i k x c j = σ c j := by rw [gu_at, if_neg h]
theorem gu_s {σ : gSt} {i k : Nat} {x : Int32} : gu σ i k x i k = x := by rw [gu_at, if_pos ⟨rfl, rfl⟩]
/-- the words' rights -/
theorem told_1 {a b : Nat} (ha : a < 2) (hb : b < 2) : decide (nI a = 0) = decide (nI (a + 2 * b) &&& 1 = 0) := by
  have h1 : a = 0 ∨ a = 1 := by omega
  have h2 : b = 0 ∨ b = 1 := by omega
  rcases h1 with rfl | rfl <;> rcases h2 with rfl | rfl <;> decide
theorem told_2 {a b : Nat} (ha : a < 2) (hb : b < 2) : decide (nI b = 0) = decide (nI (a + 2 * b) &&& 2 = 0) := by
  have h1 : a = 0 ∨ a = 1 := by omega
  have h2 : b = 0 ∨ b = 1 := by omega
  rcases h1 with rfl | rfl <;> rcases h2 with rfl | rfl <;> decide
theorem told_o1 {b : Nat} (hb : b < 2) : nI (0 + 2 * b) ||| 1 = nI (1 + 2 * b) := by
  have h2 : b = 0 ∨ b = 1 := by omega
  rcases h2 with rfl | rfl <;> decide
theorem told_o2 {a : Nat} (ha : a < 2) : nI (a + 2 * 0) ||| 2 = nI (a + 2 * 1) := by
  have h2 : a = 0 ∨ a = 1 := by omega
  rcases h2 with rfl | rfl <;> decide
theorem may_w {ρ : gSt} {i : Nat} (h5 : ρ 96 5 = 1) (h7 : ρ 96 7 = 119) : mB1 ρ i = decide (nI i = 0) := by
  rw [mB1, mMay, h5, h7]; simp
theorem may_pp {ρ : gSt} {i : Nat} (h5 : ρ 96 5 = 1) (h7 : ρ 96 7 = 112) : mB1 ρ i = !decide (5 ≤ ρ 98 6) := by
  rw [mB1, mMay, h5, h7, if_neg (by decide), if_pos rfl]; simp
theorem may_dd {ρ : gSt} {i : Nat} (h5 : ρ 96 5 = 1) (h7 : ρ 96 7 = 100) : mB1 ρ i = !decide (8 ≤ ρ 98 7) := by
  rw [mB1, mMay, h5, h7, if_neg (by decide), if_neg (by decide), if_pos rfl]; simp
theorem may_g {ρ : gSt} {i : Nat} (h5 : ρ 96 5 = 1) (h7 : ρ 96 7 = 103) : mB1 ρ i = decide (ρ 96 10 &&& 1 = 0) := by
  rw [mB1, mMay, h5, h7, if_neg (by decide), if_neg (by decide), if_neg (by decide), if_pos rfl]; simp
theorem may_f {ρ : gSt} {i : Nat} (h5 : ρ 96 5 = 1) (h7 : ρ 96 7 = 102) : mB1 ρ i = decide (ρ 96 10 &&& 2 = 0) := by
  rw [mB1, mMay, h5, h7, if_neg (by decide), if_neg (by decide), if_neg (by decide), if_neg (by decide)]; simp
theorem item_w {S : gSt} {t : Nat} : mItemS S t 119 = mDst 98 5 2 6 t S := by rw [mItemS, if_pos rfl]
theorem item_p {S : gSt} {t : Nat} : mItemS S t 112 = gu (mDst 99 (5 + q6 S) 0 (S 98 5 - 1) t S) 98 6 (mDst 99 (5 + q6 S) 0 (S 98 5 - 1) t S 98 6 + 1) := by rw [mItemS, if_neg (by decide), if_pos rfl]
theorem item_d {S : gSt} {t : Nat} : mItemS S t 100 = gu (mDutyT S t) 98 7 (mDutyT S t 98 7 + 1) := by rw [mItemS, if_neg (by decide), if_neg (by decide), if_pos rfl]
theorem item_g {S : gSt} {t : Nat} : mItemS S t 103 = gu (mDst 98 8 1 9 t S) 96 10 (mDst 98 8 1 9 t S 96 10 ||| 1) := by rw [mItemS, if_neg (by decide), if_neg (by decide), if_neg (by decide), if_pos rfl]
theorem item_f {S : gSt} {t : Nat} : mItemS S t 102 = gu (mDst 98 9 0 9 t S) 96 10 (mDst 98 9 0 9 t S 96 10 ||| 2) := by rw [mItemS, if_neg (by decide), if_neg (by decide), if_neg (by decide), if_neg (by decide)]
/-- behind one part of an item -/
def tOut (σ ρ : gSt) (t i : Nat) : Prop := tRel σ ρ t ∧ (σ 1 3 = -9 → ∃ P N D w f, tDr σ ρ P N D w f i)
theorem tOut_bad {σ ρ σ' : gSt} {t i : Nat} (h : tRel σ ρ t) (hb : ¬ σ 1 3 = -9) (h1 : σ' 1 1 = σ 1 1) (h2 : σ' 2 = σ 2) (h3 : σ' 1 3 = σ 1 3) : tOut σ' ρ t i :=
  ⟨⟨tCom_cg h.1 h1 h2 rfl rfl, Or.inr (tBad_cg (h.bad hb) h3 rfl)⟩, fun z => absurd (h3.symm.trans z) hb⟩
theorem mS2_bad {ρ : gSt} {t i : Nat} (h : ¬ mTakeS ρ t (mB1 ρ i) 96 8 < 0) : mS2 ρ t i = mTakeS ρ t (mB1 ρ i) := by rw [mS2, if_neg h]
theorem mS2_well {ρ : gSt} {t i : Nat} {v : Int32} (h : mTakeS ρ t (mB1 ρ i) 96 8 < 0) (hw : ρ 96 8 < 0) (hb : mB1 ρ i = true) (hv : ρ 96 7 = v) : mS2 ρ t i = mItemS (mTakeS ρ t (mB1 ρ i)) t v := by
  rw [mS2, if_pos h, mTakeR, if_pos hw, if_pos hb, hv]
theorem kNumS_bad {σ : gSt} {t : Nat} {a b : Int32} (h : ¬ σ 1 3 = -9) : kNumS σ t a b = σ := by rw [kNumS, if_neg h]
theorem it_places {σ ρ : gSt} {P N D w f i t : Nat} (h : tRel σ ρ t) (q : tWell σ ρ t) (hd : tDr σ ρ P N D w f i) (hi : i < 2 ^ 31) (h5 : ρ 96 5 = 1) (h7 : ρ 96 7 = 119) : tOut (kPlacesS σ t (decide (nI i = 0))) (mS2 ρ t i) t (i + 1) := by
  have hm := may_w (i := i) h5 h7
  obtain ⟨r1, r2⟩ := word_rel (b := decide (nI i = 0)) (b' := mB1 ρ i) h (fun _ => hm.symm)
  have dw := tDr_word (t := t) (b := decide (nI i = 0)) (b' := mB1 ρ i) hd
  unfold kPlacesS
  by_cases c : kWordS σ t (decide (nI i = 0)) 1 3 = -9
  · obtain ⟨-, hb⟩ := r2 c
    rw [mS2_well (r1.well c).n.2 q.n.2 (by rw [hm]; exact hb) h7, item_w, mDst]
    have hi0 : i = 0 := (nI_eq hi (by decide)).mp ((of_decide_eq_true hb).trans nI_0.symm)
    generalize kWordS σ t (decide (nI i = 0)) = K at *
    generalize mTakeS ρ t (mB1 ρ i) = M at *
    obtain ⟨n1, n2⟩ := num_rel (a := 2) (b := 6) r1
    refine ⟨tRel_cg n1 (fun j _ => gu_n (by omega)) (gu_ne (by decide)) (fun j _ _ => gu_n (by omega)) (gu_ne (by decide)), fun z => ?_⟩
    rw [gu_n (by decide)] at z
    obtain ⟨-, y2, y3⟩ := n2 z
    obtain ⟨n, ln, hn, e, -⟩ := mIn_k (m := 2) (n := 6) rfl rfl (by decide) (by decide) y3
    have d2 := tDr_num (t := t) (a := 2) (b := 6) dw
    rw [y2, e]
    generalize kNumS K t 2 6 = K at *
    generalize mNumS M t 2 6 = M at *
    obtain ⟨b1, b2, ⟨c1, c2, c3, c4, c5⟩, ⟨e1, e2, e3, e4, e5⟩, b5, b6, b7⟩ := d2
    obtain ⟨hN, hD⟩ := b2 hi0
    subst hN; subst hD
    refine ⟨n, 0, 0, w, f, ⟨ln, hn, b1.2.2⟩, fun z => ⟨rfl, rfl⟩, ⟨gu_s, ?_, ?_, ?_, ?_⟩, ⟨gu_s, ?_, ?_, ?_, ?_⟩, ?_, fun p hp => absurd hp (by omega), fun p hp => absurd hp (by omega)⟩
    · rw [gu_n (by decide)]; exact c2
    · rw [gu_n (by decide)]; exact c3
    · rw [gu_n (by decide)]; exact c4
    · rw [gu_n (by decide)]; exact c5
    · rw [gu_n (by decide)]; exact e2
    · rw [gu_n (by decide)]; exact e3
    · rw [gu_n (by decide)]; exact e4
    · rw [gu_n (by decide)]; exact e5
    · rw [gu_ne (by decide), gu_ne (by decide)]; exact b5
  · rw [mS2_bad (r1.bad c).n.2]
    refine tOut_bad r1 c ?_ ?_ ?_
    · rw [gu_n (by decide), kNumS_bad c]
    · rw [gu_ne (by decide), kNumS_bad c]
    · rw [gu_n (by decide), kNumS_bad c]
theorem it_person {σ ρ : gSt} {P N D w f i t : Nat} (h : tRel σ ρ t) (q : tWell σ ρ t) (hd : tDr σ ρ P N D w f i) (h5 : ρ 96 5 = 1) (h7 : ρ 96 7 = 112) : tOut (kPersonS σ t) (mS2 ρ t i) t (i + 1) := by
  have hm := may_pp (i := i) h5 h7
  have eN : σ 3 1 = nI N := hd.2.2.1.2.1
  have eN' : ρ 98 6 = nI N := hd.2.2.2.1.2.1
  have eP : σ 3 0 = nI P := hd.2.2.1.1
  have bd := hd.1
  have hP := bd.1
  have hP6 := bd.2.1
  have hN5l := bd.2.2.1
  obtain ⟨r1, r2⟩ := word_rel (b := !decide (5 ≤ σ 3 1)) (b' := mB1 ρ i) h (fun _ => by rw [hm, eN, eN'])
  have dw := tDr_word (t := t) (b := !decide (5 ≤ σ 3 1)) (b' := mB1 ρ i) hd
  have u0 : kP1 σ t = kWordS σ t (!decide (5 ≤ σ 3 1)) := rfl
  unfold kPersonS
  rw [show kP2 σ t = kNumS (kP1 σ t) t 0 (σ 3 0 - 1) from rfl, u0]
  by_cases c : kWordS σ t (!decide (5 ≤ σ 3 1)) 1 3 = -9
  · obtain ⟨-, hb⟩ := r2 c
    have hN5 : N < 5 := by
      rw [eN] at hb
      rcases Nat.lt_or_ge N 5 with y | y
      · exact y
      · rw [decide_eq_true (show (5 : Int32) ≤ nI N from nI_le (a := 5) y (by omega))] at hb
        exact absurd hb (by decide)
    rw [mS2_well (r1.well c).n.2 q.n.2 (by rw [hm, eN', ← eN]; exact hb) h7, item_p]
    have x1 : d1 σ = N := by show (σ 3 1).toNatClampNeg = N; rw [eN, nI_clamp (by omega)]
    rw [x1, eN, eP]
    rw [eN] at r1 dw c
    generalize kWordS σ t (!decide (5 ≤ nI N)) = K at *
    generalize mTakeS ρ t (mB1 ρ i) = M at *
    have x2 : q6 M = N := by show (M 98 6).toNatClampNeg = N; rw [dw.2.2.2.1.2.1, nI_clamp (by omega)]
    have x3 : M 98 5 = nI P := dw.2.2.2.1.1
    rw [x2, x3, mDst]
    have x4 : nI P - 1 = nI (P - 1) := by rw [show (1 : Int32) = nI 1 from rfl, pk_sub (by omega)]
    obtain ⟨n1, n2⟩ := num_rel (a := 0) (b := nI P - 1) r1
    have d2 := tDr_num (t := t) (a := 0) (b := nI P - 1) dw
    generalize hK : kNumS K t 0 (nI P - 1) = K2 at *
    generalize hM : mNumS M t 0 (nI P - 1) = M2 at *
    have x5 : M2 98 6 = nI N := d2.2.2.2.1.2.1
    rw [gu_n (c := 98) (j := 6) (by omega), x5, nI_1]
    by_cases z : K2 1 3 = -9
    · rw [if_pos z]
      obtain ⟨-, y2, y3⟩ := n2 z
      obtain ⟨n, -, hn, e, -⟩ := mIn_k (m := 0) (n := P - 1) rfl x4 (by omega) (by decide) y3
      rw [y2, e]
      refine ⟨tRel_cg n1 (fun j _ => ?_) ?_ (fun j _ _ => ?_) ?_, fun _ => ?_⟩
      · rw [gu_n (by omega), gu_n (by omega)]
      · rw [gu_ne (by decide), gu_ne (by decide)]
      · rw [gu_n (by omega), gu_n (by omega)]
      · rw [gu_ne (by decide), gu_ne (by decide)]
      obtain ⟨b1, b2, ⟨c1, c2, c3, c4, c5⟩, ⟨e1, e2, e3, e4, e5⟩, b5, b6, b7⟩ := d2
      refine ⟨P, N + 1, D, w, f, ⟨b1.1, b1.2.1, by omega, b1.2.2.2⟩, fun z => absurd z (by omega), ⟨?_, gu_s, ?_, ?_, ?_⟩, ⟨?_, gu_s, ?_, ?_, ?_⟩, ?_, fun p hp => ?_, fun x hx => ?_⟩
      · rw [gu_n (by decide), gu_n (by omega)]; exact c1
      · rw [gu_n (by decide), gu_n (by omega)]; exact c3
      · rw [gu_n (by decide), gu_n (by omega)]; exact c4
      · rw [gu_n (by decide), gu_n (by omega)]; exact c5
      · rw [gu_n (by decide), gu_n (by omega)]; exact e1
      · rw [gu_n (by decide), gu_n (by omega)]; exact e3
      · rw [gu_n (by decide), gu_n (by omega)]; exact e4
      · rw [gu_n (by decide), gu_n (by omega)]; exact e5
      · rw [gu_ne (by decide), gu_ne (by decide), gu_ne (by decide), gu_ne (by decide)]; exact b5
      · rw [gu_ne (i := 3) (by decide), gu_ne (i := 98) (by decide)]
        by_cases g : p = N
        · subst g
          rw [gu_s, gu_s]
          exact ⟨rfl, n, by omega, rfl⟩
        · rw [gu_n (by omega), gu_n (by omega)]
          exact b6 p (by omega)
      · obtain ⟨g1, ⟨a, ha, ha2⟩, g3⟩ := b7 x hx
        simp only [gu_ne (show (5 : Nat) ≠ 3 by decide), gu_ne (show (5 : Nat) ≠ 4 by decide), gu_ne (show (6 : Nat) ≠ 3 by decide), gu_ne (show (6 : Nat) ≠ 4 by decide), gu_ne (show (7 : Nat) ≠ 3 by decide), gu_ne (show (7 : Nat) ≠ 4 by decide), gu_ne (show (8 : Nat) ≠ 3 by decide), gu_ne (show (8 : Nat) ≠ 4 by decide), gu_ne (show (100 : Nat) ≠ 98 by decide), gu_ne (show (100 : Nat) ≠ 99 by decide), gu_ne (show (101 : Nat) ≠ 98 by decide), gu_ne (show (101 : Nat) ≠ 99 by decide), gu_ne (show (102 : Nat) ≠ 98 by decide), gu_ne (show (102 : Nat) ≠ 99 by decide), gu_ne (show (103 : Nat) ≠ 98 by decide), gu_ne (show (103 : Nat) ≠ 99 by decide)]
        exact ⟨g1, ⟨a, by omega, ha2⟩, g3⟩
    · rw [if_neg z]
      refine ⟨tRel_cg n1 (fun j _ => rfl) rfl (fun j _ _ => ?_) ?_, fun y => absurd y z⟩
      · rw [gu_n (by omega), gu_n (by omega)]
      · rw [gu_ne (by decide), gu_ne (by decide)]
  · rw [mS2_bad (r1.bad c).n.2, kNumS_bad c, if_neg c]
    exact tOut_bad r1 c rfl rfl rfl
theorem it_walk {σ ρ : gSt} {P N D w f i t : Nat} (h : tRel σ ρ t) (q : tWell σ ρ t) (hd : tDr σ ρ P N D w f i) (h5 : ρ 96 5 = 1) (h7 : ρ 96 7 = 103) : tOut (kWalkS σ t) (mS2 ρ t i) t (i + 1) := by
  have hm := may_g (i := i) h5 h7
  obtain ⟨a, b, ha, hb2, ea, eb, et⟩ := hd.2.2.2.2.1
  have hbb : decide (σ 1 8 = 0) = mB1 ρ i := by rw [hm, ea, et]; exact told_1 ha hb2
  obtain ⟨r1, r2⟩ := word_rel (b := decide (σ 1 8 = 0)) (b' := mB1 ρ i) h (fun _ => hbb)
  have dw := tDr_word (t := t) (b := decide (σ 1 8 = 0)) (b' := mB1 ρ i) hd
  unfold kWalkS kW0
  by_cases c : kWordS σ t (decide (σ 1 8 = 0)) 1 3 = -9
  · obtain ⟨-, hb⟩ := r2 c
    rw [mS2_well (r1.well c).n.2 q.n.2 (by rw [← hbb]; exact hb) h7, item_g, mDst]
    have ha0 : a = 0 := by
      have := of_decide_eq_true hb
      rw [ea] at this
      exact (nI_eq (by omega) (by decide)).mp (this.trans nI_0.symm)
    subst ha0
    have km10 : mTakeS ρ t (mB1 ρ i) 96 10 = nI (0 + 2 * b) ∧ kWordS σ t (decide (σ 1 8 = 0)) 1 9 = nI b :=
      ⟨(mTake_o (by decide) (by decide) (by decide) (by decide) (by decide)).trans et, (kWord_o (by decide) (by decide) (by decide) (by decide) (by decide)).trans eb⟩
    generalize kWordS σ t (decide (σ 1 8 = 0)) = K at *
    generalize mTakeS ρ t (mB1 ρ i) = M at *
    have r3 : tRel (gu K 1 8 (bI true)) M t := tRel_cg r1 (fun j _ => gu_n (by omega)) (gu_ne (by decide)) (fun _ _ _ => rfl) rfl
    have x8 : kNumS (gu K 1 8 (bI true)) t 1 9 1 8 = nI 1 := (kNum_o (by decide) (by decide) (by decide) (by decide) (by decide)).trans gu_s
    have x9 : kNumS (gu K 1 8 (bI true)) t 1 9 1 9 = K 1 9 := (kNum_o (by decide) (by decide) (by decide) (by decide) (by decide)).trans (gu_n (by decide))
    have x10 : mNumS M t 1 9 96 10 = M 96 10 := mTake_o (by decide) (by decide) (by decide) (by decide) (by decide)
    have xc : ∀ c, c ≠ 1 → kNumS (gu K 1 8 (bI true)) t 1 9 c = K c := fun c hc => (kNumS_ne hc).trans (gu_ne hc)
    have xm : ∀ c, c ≠ 96 → mNumS M t 1 9 c = M c := fun c hc => mNumS_ne hc
    obtain ⟨n1, n2⟩ := num_rel (a := 1) (b := 9) r3
    refine ⟨tRel_cg n1 (fun j _ => gu_n (by omega)) (gu_ne (by decide)) (fun j _ _ => ?_) ?_, fun z => ?_⟩
    · rw [gu_n (by omega), gu_n (by omega)]
    · rw [gu_ne (by decide), gu_ne (by decide)]
    rw [gu_n (by decide)] at z
    obtain ⟨-, y2, y3⟩ := n2 z
    obtain ⟨n, ln, hn, e, -⟩ := mIn_k (m := 1) (n := 9) rfl rfl (by decide) (by decide) y3
    rw [y2, e]
    generalize kNumS (gu K 1 8 (bI true)) t 1 9 = K2 at *
    generalize mNumS M t 1 9 = M2 at *
    obtain ⟨b1, b2, ⟨c1, c2, c3, c4, c5⟩, ⟨e1, e2, e3, e4, e5⟩, -, b6, b7⟩ := dw
    refine ⟨P, N, D, n, f, ⟨b1.1, b1.2.1, b1.2.2.1, b1.2.2.2.1, ln, hn, b1.2.2.2.2.2.2⟩, fun z => absurd z (by omega), ⟨?_, ?_, ?_, gu_s, ?_⟩, ⟨?_, ?_, ?_, ?_, ?_⟩, ⟨1, b, by omega, hb2, ?_, ?_, ?_⟩, fun p hp => ?_, fun x hx => ?_⟩
    · rw [gu_n (by decide), xc 3 (by decide)]; exact c1
    · rw [gu_n (by decide), xc 3 (by decide)]; exact c2
    · rw [gu_n (by decide), xc 3 (by decide)]; exact c3
    · rw [gu_n (by decide), xc 3 (by decide)]; exact c5
    · rw [gu_n (by decide), gu_n (by decide), xm 98 (by decide)]; exact e1
    · rw [gu_n (by decide), gu_n (by decide), xm 98 (by decide)]; exact e2
    · rw [gu_n (by decide), gu_n (by decide), xm 98 (by decide)]; exact e3
    · rw [gu_n (by decide), gu_s]
    · rw [gu_n (by decide), gu_n (by decide), xm 98 (by decide)]; exact e5
    · rw [gu_n (by decide)]; exact x8
    · rw [gu_n (by decide), x9]; exact km10.2
    · rw [gu_s, gu_n (by decide), x10, km10.1, told_o1 hb2]
    · rw [gu_ne (by decide), gu_ne (by decide), gu_ne (by decide), xc 4 (by decide), xm 99 (by decide)]
      exact b6 p hp
    · simp only [gu_ne (show (5 : Nat) ≠ 3 by decide), gu_ne (show (6 : Nat) ≠ 3 by decide), gu_ne (show (7 : Nat) ≠ 3 by decide), gu_ne (show (8 : Nat) ≠ 3 by decide), gu_ne (show (100 : Nat) ≠ 98 by decide), gu_ne (show (101 : Nat) ≠ 98 by decide), gu_ne (show (102 : Nat) ≠ 98 by decide), gu_ne (show (103 : Nat) ≠ 98 by decide), gu_ne (show (100 : Nat) ≠ 96 by decide), gu_ne (show (101 : Nat) ≠ 96 by decide), gu_ne (show (102 : Nat) ≠ 96 by decide), gu_ne (show (103 : Nat) ≠ 96 by decide), xc 5 (by decide), xc 6 (by decide), xc 7 (by decide), xc 8 (by decide), xm 100 (by decide), xm 101 (by decide), xm 102 (by decide), xm 103 (by decide)]
      exact b7 x hx
  · rw [mS2_bad (r1.bad c).n.2]
    have c2 : ¬ gu (kWordS σ t (decide (σ 1 8 = 0))) 1 8 (bI true) 1 3 = -9 := by rw [gu_n (by decide)]; exact c
    refine tOut_bad r1 c ?_ ?_ ?_
    · rw [gu_n (by decide), kNumS_bad c2, gu_n (by decide)]
    · rw [gu_ne (by decide), kNumS_bad c2, gu_ne (by decide)]
    · rw [gu_n (by decide), kNumS_bad c2, gu_n (by decide)]
theorem it_free {σ ρ : gSt} {P N D w f i t : Nat} (h : tRel σ ρ t) (q : tWell σ ρ t) (hd : tDr σ ρ P N D w f i) (h5 : ρ 96 5 = 1) (h7 : ρ 96 7 = 102) : tOut (kFreeS σ t) (mS2 ρ t i) t (i + 1) := by
  have hm := may_f (i := i) h5 h7
  obtain ⟨a, b, ha, hb2, ea, eb, et⟩ := hd.2.2.2.2.1
  have hbb : decide (σ 1 9 = 0) = mB1 ρ i := by rw [hm, eb, et]; exact told_2 ha hb2
  obtain ⟨r1, r2⟩ := word_rel (b := decide (σ 1 9 = 0)) (b' := mB1 ρ i) h (fun _ => hbb)
  have dw := tDr_word (t := t) (b := decide (σ 1 9 = 0)) (b' := mB1 ρ i) hd
  unfold kFreeS kF0
  by_cases c : kWordS σ t (decide (σ 1 9 = 0)) 1 3 = -9
  · obtain ⟨-, hb⟩ := r2 c
    rw [mS2_well (r1.well c).n.2 q.n.2 (by rw [← hbb]; exact hb) h7, item_f, mDst]
    have ha0 : b = 0 := by
      have := of_decide_eq_true hb
      rw [eb] at this
      exact (nI_eq (by omega) (by decide)).mp (this.trans nI_0.symm)
    subst ha0
    have km10 : mTakeS ρ t (mB1 ρ i) 96 10 = nI (a + 2 * 0) ∧ kWordS σ t (decide (σ 1 9 = 0)) 1 8 = nI a :=
      ⟨(mTake_o (by decide) (by decide) (by decide) (by decide) (by decide)).trans et, (kWord_o (by decide) (by decide) (by decide) (by decide) (by decide)).trans ea⟩
    generalize kWordS σ t (decide (σ 1 9 = 0)) = K at *
    generalize mTakeS ρ t (mB1 ρ i) = M at *
    have r3 : tRel (gu K 1 9 (bI true)) M t := tRel_cg r1 (fun j _ => gu_n (by omega)) (gu_ne (by decide)) (fun _ _ _ => rfl) rfl
    have x9 : kNumS (gu K 1 9 (bI true)) t 0 9 1 9 = nI 1 := (kNum_o (by decide) (by decide) (by decide) (by decide) (by decide)).trans gu_s
    have x8 : kNumS (gu K 1 9 (bI true)) t 0 9 1 8 = K 1 8 := (kNum_o (by decide) (by decide) (by decide) (by decide) (by decide)).trans (gu_n (by decide))
    have x10 : mNumS M t 0 9 96 10 = M 96 10 := mTake_o (by decide) (by decide) (by decide) (by decide) (by decide)
    have xc : ∀ c, c ≠ 1 → kNumS (gu K 1 9 (bI true)) t 0 9 c = K c := fun c hc => (kNumS_ne hc).trans (gu_ne hc)
    have xm : ∀ c, c ≠ 96 → mNumS M t 0 9 c = M c := fun c hc => mNumS_ne hc
    obtain ⟨n1, n2⟩ := num_rel (a := 0) (b := 9) r3
    refine ⟨tRel_cg n1 (fun j _ => gu_n (by omega)) (gu_ne (by decide)) (fun j _ _ => ?_) ?_, fun z => ?_⟩
    · rw [gu_n (by omega), gu_n (by omega)]
    · rw [gu_ne (by decide), gu_ne (by decide)]
    rw [gu_n (by decide)] at z
    obtain ⟨-, y2, y3⟩ := n2 z
    obtain ⟨n, ln, hn, e, -⟩ := mIn_k (m := 0) (n := 9) rfl rfl (by decide) (by decide) y3
    rw [y2, e]
    generalize kNumS (gu K 1 9 (bI true)) t 0 9 = K2 at *
    generalize mNumS M t 0 9 = M2 at *
    obtain ⟨b1, b2, ⟨c1, c2, c3, c4, c5⟩, ⟨e1, e2, e3, e4, e5⟩, -, b6, b7⟩ := dw
    refine ⟨P, N, D, w, n, ⟨b1.1, b1.2.1, b1.2.2.1, b1.2.2.2.1, b1.2.2.2.2.1, b1.2.2.2.2.2.1, hn⟩, fun z => absurd z (by omega), ⟨?_, ?_, ?_, ?_, gu_s⟩, ⟨?_, ?_, ?_, ?_, ?_⟩, ⟨a, 1, ha, by omega, ?_, ?_, ?_⟩, fun p hp => ?_, fun x hx => ?_⟩
    · rw [gu_n (by decide), xc 3 (by decide)]; exact c1
    · rw [gu_n (by decide), xc 3 (by decide)]; exact c2
    · rw [gu_n (by decide), xc 3 (by decide)]; exact c3
    · rw [gu_n (by decide), xc 3 (by decide)]; exact c4
    · rw [gu_n (by decide), gu_n (by decide), xm 98 (by decide)]; exact e1
    · rw [gu_n (by decide), gu_n (by decide), xm 98 (by decide)]; exact e2
    · rw [gu_n (by decide), gu_n (by decide), xm 98 (by decide)]; exact e3
    · rw [gu_n (by decide), gu_n (by decide), xm 98 (by decide)]; exact e4
    · rw [gu_n (by decide), gu_s]
    · rw [gu_n (by decide), x8]; exact km10.2
    · rw [gu_n (by decide)]; exact x9
    · rw [gu_s, gu_n (by decide), x10, km10.1, told_o2 ha]
    · rw [gu_ne (by decide), gu_ne (by decide), gu_ne (by decide), xc 4 (by decide), xm 99 (by decide)]
      exact b6 p hp
    · simp only [gu_ne (show (5 : Nat) ≠ 3 by decide), gu_ne (show (6 : Nat) ≠ 3 by decide), gu_ne (show (7 : Nat) ≠ 3 by decide), gu_ne (show (8 : Nat) ≠ 3 by decide), gu_ne (show (100 : Nat) ≠ 98 by decide), gu_ne (show (101 : Nat) ≠ 98 by decide), gu_ne (show (102 : Nat) ≠ 98 by decide), gu_ne (show (103 : Nat) ≠ 98 by decide), gu_ne (show (100 : Nat) ≠ 96 by decide), gu_ne (show (101 : Nat) ≠ 96 by decide), gu_ne (show (102 : Nat) ≠ 96 by decide), gu_ne (show (103 : Nat) ≠ 96 by decide), xc 5 (by decide), xc 6 (by decide), xc 7 (by decide), xc 8 (by decide), xm 100 (by decide), xm 101 (by decide), xm 102 (by decide), xm 103 (by decide)]
      exact b7 x hx
  · rw [mS2_bad (r1.bad c).n.2]
    have c2 : ¬ gu (kWordS σ t (decide (σ 1 9 = 0))) 1 9 (bI true) 1 3 = -9 := by rw [gu_n (by decide)]; exact c
    refine tOut_bad r1 c ?_ ?_ ?_
    · rw [gu_n (by decide), kNumS_bad c2, gu_n (by decide)]
    · rw [gu_ne (by decide), kNumS_bad c2, gu_ne (by decide)]
    · rw [gu_n (by decide), kNumS_bad c2, gu_n (by decide)]
