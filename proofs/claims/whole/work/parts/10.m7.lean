/-! ===== the reference: a text comes to its end ===== -/
abbrev nx (S : gSt) : Nat := (S 96 4).toNatClampNeg
def plOk (S : gSt) : Prop := ∃ pl, pl ≤ 200 ∧ S 96 6 = nI pl
def cInv (S : gSt) : Prop := ∃ a b, a ≤ 5 ∧ b ≤ 8 ∧ S 98 6 = nI a ∧ S 98 7 = nI b
theorem adv_4 (S : gSt) (t : Nat) : mAdvS S t 96 4 = nI (rTokE (S 97) t (mK S t)) := by rw [mAdvS, mPS_at]; simp
theorem adv_5 (S : gSt) (t : Nat) : mAdvS S t 96 5 = rTokK (S 97) t (mK S t) := by rw [mAdvS, mPS_at]; simp
theorem adv_6 (S : gSt) (t : Nat) : mAdvS S t 96 6 = nI (mK S t) := by rw [mAdvS, mPS_at]; simp
theorem adv_7 (S : gSt) (t : Nat) : mAdvS S t 96 7 = rTokV (S 97) t (mK S t) (S 96 7) := by rw [mAdvS, mPS_at]; simp
theorem adv_o {S : gSt} {t j : Nat} (h4 : j ≠ 4) (h5 : j ≠ 5) (h6 : j ≠ 6) (h7 : j ≠ 7) : mAdvS S t 96 j = S 96 j := by rw [mAdvS, mPS_at]; simp [h4, h5, h6, h7]
theorem plOk_adv {S : gSt} {t : Nat} (h : pOk S t) : plOk (mAdvS S t) := ⟨mK S t, Nat.le_trans (mK_le h) h.2.1, adv_6 S t⟩
theorem adv_next {S : gSt} {t : Nat} (h : pOk S t) : nx S ≤ nx (mAdvS S t) ∧ (¬ mAdvS S t 96 5 = 0 → nx S < nx (mAdvS S t)) ∧ nx (mAdvS S t) ≤ t := by
  have hk : nx S ≤ t := h.nx.2
  have hK := rSkip_le (tx := S 97) (t := t) (t - nx S) (nx S) (by omega)
  have hKt : mK S t ≤ t := mK_le h
  have hle : rTokE (S 97) t (mK S t) ≤ t := rTokE_le hKt
  have e : nx (mAdvS S t) = rTokE (S 97) t (mK S t) := by
    show (mAdvS S t 96 4).toNatClampNeg = _
    rw [adv_4, nI_clamp (by have := h.2.1; omega)]
  rw [e, adv_5]
  have hK1 : nx S ≤ mK S t := hK.1
  unfold rTokE rTokK at *
  by_cases q : 0 ≤ rLet (S 97) t (mK S t)
  · have hlt : mK S t < t := by
      rcases Nat.lt_or_ge (mK S t) t with z | z
      · exact z
      · rw [show mK S t = t by omega, rLet_t] at q
        exact absurd q (by decide)
    rw [if_pos q] at hle ⊢
    by_cases q2 : mIn (rLet (S 97) t (mK S t)) 48 57 = true
    · rw [if_pos q2] at hle ⊢
      have g : mK S t + 1 ≤ rNumE (S 97) t (t - mK S t) (mK S t) := by
        obtain ⟨m_, hm⟩ : ∃ m_, t - mK S t = m_ + 1 := ⟨t - mK S t - 1, by omega⟩
        rw [hm, rNumE, if_pos q2]
        exact (rNumE_le _ _ (by omega)).1
      exact ⟨by omega, fun _ => by omega, hle⟩
    · rw [if_neg q2] at hle ⊢
      exact ⟨by omega, fun _ => by omega, hle⟩
  · rw [if_neg q, if_neg q] at *
    exact ⟨hK1, fun z => absurd rfl z, hKt⟩
theorem take_well {S : gSt} {t : Nat} {b : Bool} (hpl : plOk S) (h1 : mTakeS S t b 96 8 < 0) : S 96 8 < 0 ∧ b = true ∧ mTakeS S t b = mAdvS S t ∧ mTakeR S b = S 96 7 := by
  unfold mTakeS mTakeR at *
  by_cases h : S 96 8 < 0
  · rw [if_pos h] at h1 ⊢
    rw [if_pos h]
    cases b with
    | true => exact ⟨h, rfl, if_pos rfl, if_pos rfl⟩
    | false =>
      obtain ⟨pl, hp, e⟩ := hpl
      rw [if_neg (by decide), gu_at, if_pos ⟨rfl, rfl⟩, e] at h1
      exact absurd h1 (nI_pos (by omega))
  · rw [if_neg h] at h1
    exact absurd h1 h
theorem plOk_take {S : gSt} {t : Nat} {b : Bool} (hp : pOk S t) (h : plOk S) : plOk (mTakeS S t b) := by
  unfold mTakeS
  split
  · split
    · exact plOk_adv hp
    · obtain ⟨pl, h1, h2⟩ := h
      exact ⟨pl, h1, by rw [gu_at, if_neg (by decide)]; exact h2⟩
  · exact h
theorem plOk_gu {S : gSt} {c k : Nat} {x : Int32} (hc : ¬ (c = 96 ∧ k = 6)) (h : plOk S) : plOk (gu S c k x) := by
  obtain ⟨pl, h1, h2⟩ := h
  exact ⟨pl, h1, by rw [gu_at, if_neg (fun z => hc ⟨z.1.symm, z.2.symm⟩)]; exact h2⟩
theorem dst_96 {c o : Nat} {a b : Int32} {t : Nat} {S : gSt} (hc : c ≠ 96) : mDst c o a b t S 96 = mNumS S t a b 96 := gu_ne (Ne.symm hc)
theorem plOk_dst {S : gSt} {t c o : Nat} {a b : Int32} (hc : c ≠ 96) (hp : pOk S t) (h : plOk S) : plOk (mDst c o a b t S) := plOk_gu (fun q => hc q.1) (plOk_take hp h)
/-- a number was read: the reading went on -/
theorem dst_next {c o : Nat} {a b : Int32} {t : Nat} {S : gSt} (hc : c ≠ 96) (hp : pOk S t) (hpl : plOk S) (hw : mDst c o a b t S 96 8 < 0) : S 96 8 < 0 ∧ nx S ≤ nx (mDst c o a b t S) ∧ (¬ mDst c o a b t S 96 5 = 0 → nx S < nx (mDst c o a b t S)) := by
  rw [dst_96 hc] at hw
  obtain ⟨h1, -, h3, -⟩ := take_well (S := S) (t := t) (b := mNumOk S a b) hpl hw
  have e : mDst c o a b t S 96 = mAdvS S t 96 := by rw [dst_96 hc]; exact congrFun h3 96
  have g := adv_next hp
  refine ⟨h1, ?_, ?_⟩
  · show _ ≤ (mDst c o a b t S 96 4).toNatClampNeg
    rw [e]; exact g.1
  · show ¬ mDst c o a b t S 96 5 = 0 → _ < (mDst c o a b t S 96 4).toNatClampNeg
    rw [e]; exact g.2.1
theorem gu_96 {σ : gSt} {c k : Nat} {x : Int32} (h : c ≠ 96) : gu σ c k x 96 = σ 96 := gu_ne (Ne.symm h)
theorem item_next {S : gSt} {t : Nat} {w : Int32} (hp : pOk S t) (hpl : plOk S) (hw : mItemS S t w 96 8 < 0) (h5 : ¬ mItemS S t w 96 5 = 0) : nx S < nx (mItemS S t w) := by
  unfold mItemS at *
  by_cases c1 : w = 119
  · rw [if_pos c1] at *
    exact (dst_next (by decide) hp hpl hw).2.2 h5
  rw [if_neg c1] at *
  by_cases c2 : w = 112
  · rw [if_pos c2] at *
    show _ < (gu _ _ _ _ 96 4).toNatClampNeg
    rw [gu_96 (by decide)] at *
    exact (dst_next (by decide) hp hpl hw).2.2 h5
  rw [if_neg c2] at *
  by_cases c3 : w = 100
  · rw [if_pos c3] at *
    show _ < (gu _ _ _ _ 96 4).toNatClampNeg
    rw [gu_96 (by decide)] at *
    unfold mDutyT at *
    have p1 := pOk_dst (c := 100) (o := q7 S) (a := 0) (b := S 98 6 - 1) (by decide) hp
    have l1 := plOk_dst (c := 100) (o := q7 S) (a := 0) (b := S 98 6 - 1) (by decide) hp hpl
    have p2 := pOk_dst (c := 101) (o := 8 + q7 S) (a := 0) (b := S 98 5 - 1) (by decide) p1
    have l2 := plOk_dst (c := 101) (o := 8 + q7 S) (a := 0) (b := S 98 5 - 1) (by decide) p1 l1
    have p3 := pOk_dst (c := 102) (o := 8 + q7 S) (a := 0) (b := 239) (by decide) p2
    have l3 := plOk_dst (c := 102) (o := 8 + q7 S) (a := 0) (b := 239) (by decide) p2 l2
    have d4 := dst_next (by decide) p3 l3 hw
    have d3 := dst_next (by decide) p2 l2 d4.1
    have d2 := dst_next (by decide) p1 l1 d3.1
    have d1 := dst_next (by decide) hp hpl d2.1
    have := d4.2.2 h5
    have := d3.2.1
    have := d2.2.1
    have := d1.2.1
    show nx S < nx _
    omega
  rw [if_neg c3] at *
  by_cases c4 : w = 103
  · rw [if_pos c4] at *
    have e : ∀ (X : gSt) (x : Int32) (j : Nat), j ≠ 10 → gu X 96 10 x 96 j = X 96 j := fun X x j hj => by rw [gu_at, if_neg (fun z => hj z.2)]
    show _ < (gu _ _ _ _ 96 4).toNatClampNeg
    rw [e _ _ _ (by decide)] at *
    exact (dst_next (by decide) hp hpl hw).2.2 h5
  · rw [if_neg c4] at *
    have e : ∀ (X : gSt) (x : Int32) (j : Nat), j ≠ 10 → gu X 96 10 x 96 j = X 96 j := fun X x j hj => by rw [gu_at, if_neg (fun z => hj z.2)]
    show _ < (gu _ _ _ _ 96 4).toNatClampNeg
    rw [e _ _ _ (by decide)] at *
    exact (dst_next (by decide) hp hpl hw).2.2 h5
theorem pOk_item {S : gSt} {t : Nat} {w : Int32} (h : pOk S t) : pOk (mItemS S t w) t := by
  unfold mItemS mDutyT
  split
  · exact pOk_dst (by decide) h
  · split
    · exact pOk_gu (by decide) (pOk_dst (by decide) h)
    · split
      · exact pOk_gu (by decide) (pOk_dst (by decide) (pOk_dst (by decide) (pOk_dst (by decide) (pOk_dst (by decide) h))))
      · split
        · exact pOk_gu (by decide) (pOk_dst (by decide) h)
        · exact pOk_gu (by decide) (pOk_dst (by decide) h)
theorem plOk_item {S : gSt} {t : Nat} {w : Int32} (hp : pOk S t) (h : plOk S) : plOk (mItemS S t w) := by
  unfold mItemS mDutyT
  split
  · exact plOk_dst (by decide) hp h
  · split
    · exact plOk_gu (by decide) (plOk_dst (by decide) hp h)
    · split
      · have p1 := pOk_dst (c := 100) (o := q7 S) (a := 0) (b := S 98 6 - 1) (by decide) hp
        have p2 := pOk_dst (c := 101) (o := 8 + q7 S) (a := 0) (b := S 98 5 - 1) (by decide) p1
        have p3 := pOk_dst (c := 102) (o := 8 + q7 S) (a := 0) (b := 239) (by decide) p2
        exact plOk_gu (by decide) (plOk_dst (by decide) p3 (plOk_dst (by decide) p2 (plOk_dst (by decide) p1 (plOk_dst (by decide) hp h))))
      · split
        · exact plOk_gu (by decide) (plOk_dst (by decide) hp h)
        · exact plOk_gu (by decide) (plOk_dst (by decide) hp h)
def mu (S : gSt) (t : Nat) : Nat := if S 96 8 < 0 ∧ ¬ S 96 5 = 0 then t + 1 - nx S else 0
theorem pOk_s2 {S : gSt} {t i : Nat} (h : pOk S t) : pOk (mS2 S t i) t := by
  unfold mS2
  split
  · exact pOk_item (pOk_take h)
  · exact pOk_take h
theorem plOk_s2 {S : gSt} {t i : Nat} (h : pOk S t) (hpl : plOk S) : plOk (mS2 S t i) := by
  unfold mS2
  split
  · exact plOk_item (pOk_take h) (plOk_take h hpl)
  · exact plOk_take h hpl
theorem step_mu {S : gSt} {t i : Nat} (hp : pOk S t) (hpl : plOk S) (ha : S 96 8 < 0) (hb : ¬ S 96 5 = 0) : mu (mStep S t i) t < mu S t := by
  have hS : nx S ≤ t := hp.nx.2
  have e : mu S t = t + 1 - nx S := if_pos ⟨ha, hb⟩
  rw [e]
  unfold mu
  split
  · next h =>
    have hw : mTakeS (mS2 S t i) t (decide (mS2 S t i 96 5 = 3)) 96 8 < 0 := h.1
    obtain ⟨w2, b2, e2, -⟩ := take_well (plOk_s2 hp hpl) hw
    have t3 : mS2 S t i 96 5 = 3 := of_decide_eq_true b2
    have es : mStep S t i = mAdvS (mS2 S t i) t := e2
    have g3 := adv_next (pOk_s2 (i := i) hp)
    have hi : mTakeS S t (mB1 S i) 96 8 < 0 := by
      by_cases q : mTakeS S t (mB1 S i) 96 8 < 0
      · exact q
      · rw [mS2, if_neg q] at w2
        exact absurd w2 q
    obtain ⟨-, -, e1, -⟩ := take_well hpl hi
    have em : mS2 S t i = mItemS (mTakeS S t (mB1 S i)) t (mTakeR S (mB1 S i)) := if_pos hi
    have gi := item_next (S := mTakeS S t (mB1 S i)) (t := t) (w := mTakeR S (mB1 S i)) (pOk_take hp) (plOk_take hp hpl) (by rw [← em]; exact w2) (by rw [← em, t3]; decide)
    rw [← em, e1] at gi
    have g1 := (adv_next hp).1
    rw [es]
    have := g3.1
    have := g3.2.2
    omega
  · omega
theorem cInv_rows {S T : gSt} (h6 : T 98 6 = S 98 6) (h7 : T 98 7 = S 98 7) (h : cInv S) : cInv T := by
  obtain ⟨a, b, h1, h2, h3, h4⟩ := h
  exact ⟨a, b, h1, h2, by rw [h6]; exact h3, by rw [h7]; exact h4⟩
theorem may_p {S : gSt} {i : Nat} (h : mMay S (nI i) = true) (h7 : S 96 7 = 112) : ¬ 5 ≤ S 98 6 := by
  simpa [mMay, h7] using h
theorem may_d {S : gSt} {i : Nat} (h : mMay S (nI i) = true) (h7 : S 96 7 = 100) : ¬ 8 ≤ S 98 7 := by
  simpa [mMay, h7] using h
theorem dst_98 {c o : Nat} {a b : Int32} {t j : Nat} {S : gSt} (hc : ¬ (98 = c ∧ j = o)) : mDst c o a b t S 98 j = S 98 j := by
  rw [mDst, gu_at, if_neg hc, mNumS_ne (by decide)]
theorem duty_98 {S : gSt} {t j : Nat} : mDutyT S t 98 j = S 98 j := by
  rw [mDutyT, dst_98 (by omega), dst_98 (by omega), dst_98 (by omega), dst_98 (by omega)]
/-- what the item's counts need -/
theorem s1_counts {S : gSt} {t i : Nat} (hpl : plOk S) (hc : cInv S) (hi : mTakeS S t (mB1 S i) 96 8 < 0) :
    mTakeS S t (mB1 S i) 98 6 = nI (q6 (mTakeS S t (mB1 S i))) ∧ mTakeS S t (mB1 S i) 98 7 = nI (q7 (mTakeS S t (mB1 S i))) ∧ (mTakeR S (mB1 S i) = 112 → q6 (mTakeS S t (mB1 S i)) < 5) ∧ (mTakeR S (mB1 S i) = 100 → q7 (mTakeS S t (mB1 S i)) < 8) := by
  obtain ⟨a, b, h1, h2, h3, h4⟩ := hc
  obtain ⟨-, hb, -, hr⟩ := take_well hpl hi
  have e : mTakeS S t (mB1 S i) 98 = S 98 := mTakeS_ne (by decide)
  have e6 : q6 (mTakeS S t (mB1 S i)) = a := by show (mTakeS S t (mB1 S i) 98 6).toNatClampNeg = a; rw [e, h3, nI_clamp (by omega)]
  have e7 : q7 (mTakeS S t (mB1 S i)) = b := by show (mTakeS S t (mB1 S i) 98 7).toNatClampNeg = b; rw [e, h4, nI_clamp (by omega)]
  have hm : mMay S (nI i) = true := by
    unfold mB1 at hb
    exact (Bool.and_eq_true_iff.mp hb).2
  refine ⟨by rw [e6, e]; exact h3, by rw [e7, e]; exact h4, fun q => ?_, fun q => ?_⟩
  · rw [hr] at q
    have z := may_p hm q
    rw [h3] at z
    rw [e6]
    rcases Nat.lt_or_ge a 5 with y | y
    · exact y
    · exact absurd (nI_le y (by omega)) z
  · rw [hr] at q
    have z := may_d hm q
    rw [h4] at z
    rw [e7]
    rcases Nat.lt_or_ge b 8 with y | y
    · exact y
    · exact absurd (nI_le y (by omega)) z
theorem cInv_step {S : gSt} {t i : Nat} (hpl : plOk S) (hc : cInv S) : cInv (mStep S t i) := by
  have e0 : mStep S t i 98 = mS2 S t i 98 := mTakeS_ne (by decide)
  refine cInv_rows (congrFun e0 6) (congrFun e0 7) ?_
  unfold mS2
  split
  · next hi =>
    obtain ⟨c6, c7, c6b, c7b⟩ := s1_counts hpl hc hi
    obtain ⟨a, b, h1, h2, h3, h4⟩ := hc
    have e : mTakeS S t (mB1 S i) 98 = S 98 := mTakeS_ne (by decide)
    have f6 : q6 (mTakeS S t (mB1 S i)) = a := by show (mTakeS S t (mB1 S i) 98 6).toNatClampNeg = a; rw [e, h3, nI_clamp (by omega)]
    have f7 : q7 (mTakeS S t (mB1 S i)) = b := by show (mTakeS S t (mB1 S i) 98 7).toNatClampNeg = b; rw [e, h4, nI_clamp (by omega)]
    rw [f6] at c6b
    rw [f7] at c7b
    rw [← e] at h3 h4
    generalize mTakeS S t (mB1 S i) = U at *
    generalize mTakeR S (mB1 S i) = w at *
    unfold mItemS
    split
    · exact ⟨a, b, h1, h2, by rw [dst_98 (by omega)]; exact h3, by rw [dst_98 (by omega)]; exact h4⟩
    · split
      · next q =>
        exact ⟨a + 1, b, c6b q, h2, by rw [gu_at, if_pos ⟨rfl, rfl⟩, dst_98 (by omega), h3, nI_1], by rw [gu_at, if_neg (by decide), dst_98 (by omega)]; exact h4⟩
      · split
        · next q =>
          exact ⟨a, b + 1, h1, c7b q, by rw [gu_at, if_neg (by decide), duty_98]; exact h3, by rw [gu_at, if_pos ⟨rfl, rfl⟩, duty_98, h4, nI_1]⟩
        · split
          · exact ⟨a, b, h1, h2, by rw [gu_ne (by decide), dst_98 (by omega)]; exact h3, by rw [gu_ne (by decide), dst_98 (by omega)]; exact h4⟩
          · exact ⟨a, b, h1, h2, by rw [gu_ne (by decide), dst_98 (by omega)]; exact h3, by rw [gu_ne (by decide), dst_98 (by omega)]; exact h4⟩
  · exact cInv_rows (congrFun (mTakeS_ne (by decide)) 6) (congrFun (mTakeS_ne (by decide)) 7) hc
set_option maxHeartbeats 4000000 in
set_option maxRecDepth 100000 in
theorem m_town (l : Launch) (G : gG) (σ : gSt) (τ : Nat → Int64) (t : Nat) (ht : σ 96 3 = nI t) (ht2 : t ≤ 200) : gI l yX10_town cX10_town 3 (some .int) 5 110 G [.ref (gAd G 96)] σ τ (if (mTown σ t).1 96 8 < 0 then nI (mTown σ t).2 else -10 - (mTown σ t).1 96 8) (if (mTown σ t).1 96 8 < 0 then mSettle (mTown σ t).1 else (mTown σ t).1) τ := by
  refine gMet_of (by decide) (Nat.le_of_ble_eq_true rfl) ?_
  intro p e s m args below meth c C hr hlk ls hl hW
  have hx := C.1
  have hb := C.2.1
  have hl : lv_has ls 3 [(0, .ref (gAd G 96))] := hl
  refine lv_aload_n hx hb dX10_town_0 rfl (lv_at hl 0 rfl) ?_
  refine lv_iconst (v := 0) hx hb dX10_town_1 (by decide) ?_
  refine gp_X10_62 C hW (by decide) rfl dX10_town_2 (fun H locs hW => ?_)
  refine lv_aload_n hx hb dX10_town_5 rfl (lv_at hl 0 rfl) ?_
  refine lv_iconst (v := (-1)) hx hb dX10_town_6 (by decide) ?_
  refine gp_X10_93 C hW (by decide) rfl dX10_town_7 (fun H locs hW => ?_)
  refine lv_aload_n hx hb dX10_town_10 rfl (lv_at hl 0 rfl) ?_
  refine lv_iconst (v := 0) hx hb dX10_town_11 (by decide) ?_
  refine gp_X10_73 C hW (by decide) rfl dX10_town_12 (fun H locs hW => ?_)
  refine lv_aload_n hx hb dX10_town_15 rfl (lv_at hl 0 rfl) ?_
  refine g_callvV (σ' := mBegS (gu (gu σ 96 8 (-1)) 96 4 0)) (rest := []) (As := []) C hW kv_X10_56 96 (by decide) (gL_10 rfl) rfl (m_begins l G (gu (gu σ 96 8 (-1)) 96 4 0) τ) ⟨Nat.le_of_ble_eq_true rfl, Nat.le_of_ble_eq_true rfl⟩ ⟨Nat.le_refl _, Nat.le_refl _⟩ rfl hl.1 rfl (Nat.le_of_ble_eq_true rfl) dX10_town_16 (fun H locs hW => ?_)
  refine lv_iconst (v := 0) hx hb dX10_town_19 (by decide) ?_
  refine lv_istore_n (lv' := [(1, .int 0), (0, .ref (gAd G 96))]) hx hb dX10_town_20 rfl hl (by decide) rfl (fun ls hl => ?_)
  refine lv_aload_n hx hb dX10_town_21 rfl (lv_at hl 1 rfl) ?_
  refine g_callvV (σ' := mAdvS (mBegS (gu (gu σ 96 8 (-1)) 96 4 0)) t) (rest := []) (As := []) C hW kv_X10_100 96 (by decide) (gL_10 rfl) rfl (m_advances l G (mBegS (gu (gu σ 96 8 (-1)) 96 4 0)) τ t (⟨ht, ht2, 0, Nat.zero_le _, rfl⟩ : pOk (mBegS (gu (gu σ 96 8 (-1)) 96 4 0)) t)) ⟨Nat.le_of_ble_eq_true rfl, Nat.le_of_ble_eq_true rfl⟩ ⟨Nat.le_refl _, Nat.le_refl _⟩ rfl hl.1 rfl (Nat.le_of_ble_eq_true rfl) dX10_town_22 (fun H locs hW => ?_)
  have L25 : ∀ (n : Nat) (i_ : Nat) (S : gSt) (H : Heap) (locs : List Loc) (ls : Array Slot), mu S t ≤ n → (pOk S t) → (plOk S) → (cInv S) → (mTownL t n S i_ = mTownL t (t + 1) (mTown0 σ t) 0) → gW G s S τ H locs → lv_has ls 3 [(1, .int (nI i_)), (0, .ref (gAd G 96))] → W p l e (gRm 5 110) s m args below meth c H locs 0 0 (MQ below (gQi G (if (mTown σ t).1 96 8 < 0 then nI (mTown σ t).2 else -10 - (mTown σ t).1 96 8) (if (mTown σ t).1 96 8 < 0 then mSettle (mTown σ t).1 else (mTown σ t).1) τ) args s 0 0 (gA G)) (F0 m 25 ls []) := by
    intro n
    induction n with
    | zero =>
      intro i_ S H locs ls hm hp hpl hcv hq hW hl
      refine lv_aload_n hx hb dX10_town_25 rfl (lv_at hl 1 rfl) ?_
      refine g_callvI (r := bI (decide (S 96 8 < 0))) (σ' := S) (rest := []) (As := []) C hW kv_X10_96 96 (by decide) (gL_10 rfl) rfl (m_isWell l G S τ) ⟨Nat.le_of_ble_eq_true rfl, Nat.le_of_ble_eq_true rfl⟩ ⟨Nat.le_refl _, Nat.le_refl _⟩ rfl hl.1 rfl (Nat.le_of_ble_eq_true rfl) dX10_town_26 (fun H locs hW => ?_)
      refine lv_if_eq (tgt := 101) hx hb dX10_town_29 (by decide) (fun c_1 => ?_) (fun c_1 => ?_)
      · skip
        replace c_1 : (decide (S 96 8 < 0)) = false := bI_eq0.mp c_1
        have hf : mTown σ t = (S, i_) := by rw [mTown, ← hq]; rfl
        refine lv_aload_n hx hb dX10_town_101 rfl (lv_at hl 1 rfl) ?_
        refine g_callvI (r := bI (decide (S 96 8 < 0))) (σ' := S) (rest := []) (As := []) C hW kv_X10_96 96 (by decide) (gL_10 rfl) rfl (m_isWell l G S τ) ⟨Nat.le_of_ble_eq_true rfl, Nat.le_of_ble_eq_true rfl⟩ ⟨Nat.le_refl _, Nat.le_refl _⟩ rfl hl.1 rfl (Nat.le_of_ble_eq_true rfl) dX10_town_102 (fun H locs hW => ?_)
        refine lv_if_ne (tgt := 116) hx hb dX10_town_105 (by decide) (fun c_2 => ?_) (fun c_2 => ?_)
        · skip
          replace c_2 : (decide (S 96 8 < 0)) = true := bI_ne0.mp c_2
          refine lv_aload_n hx hb dX10_town_116 rfl (lv_at hl 1 rfl) ?_
          refine g_callvV (σ' := mSettle S) (rest := []) (As := []) C hW kv_X10_59 96 (by decide) (gL_10 rfl) rfl (m_settles l G S τ) ⟨Nat.le_of_ble_eq_true rfl, Nat.le_of_ble_eq_true rfl⟩ ⟨Nat.le_refl _, Nat.le_refl _⟩ rfl hl.1 rfl (Nat.le_of_ble_eq_true rfl) dX10_town_117 (fun H locs hW => ?_)
          refine lv_iload_n hx hb dX10_town_120 rfl (lv_at hl 0 rfl) ?_
          exact g_iret C hr hlk hW dX10_town_121 (by rw [hf]; rw [if_pos (of_decide_eq_true c_2)]) (by rw [hf]; rw [if_pos (of_decide_eq_true c_2)]) (rfl)
        · skip
          replace c_2 : (decide (S 96 8 < 0)) = false := bI_eq0.mp c_2
          refine lv_bipush (v := (-10)) hx hb dX10_town_108 (by decide) ?_
          refine lv_aload_n hx hb dX10_town_110 rfl (lv_at hl 1 rfl) ?_
          refine gf_X10_93 (v := S 96 8) C hW (by decide) rfl rfl dX10_town_111 ?_
          refine lv_isub hx hb dX10_town_114 ?_
          exact g_iret C hr hlk hW dX10_town_115 (by rw [hf]; rw [if_neg (of_decide_eq_false c_2)]) (by rw [hf]; rw [if_neg (of_decide_eq_false c_2)]) (rfl)
      · skip
        replace c_1 : (decide (S 96 8 < 0)) = true := bI_ne0.mp c_1
        refine lv_aload_n hx hb dX10_town_32 rfl (lv_at hl 1 rfl) ?_
        refine gf_X10_83 (v := S 96 5) C hW (by decide) rfl rfl dX10_town_33 ?_
        refine lv_if_eq (tgt := 101) hx hb dX10_town_36 (by decide) (fun c_3 => ?_) (fun c_3 => ?_)
        · skip
          have hf : mTown σ t = (S, i_) := by rw [mTown, ← hq]; rfl
          refine lv_aload_n hx hb dX10_town_101 rfl (lv_at hl 1 rfl) ?_
          refine g_callvI (r := bI (decide (S 96 8 < 0))) (σ' := S) (rest := []) (As := []) C hW kv_X10_96 96 (by decide) (gL_10 rfl) rfl (m_isWell l G S τ) ⟨Nat.le_of_ble_eq_true rfl, Nat.le_of_ble_eq_true rfl⟩ ⟨Nat.le_refl _, Nat.le_refl _⟩ rfl hl.1 rfl (Nat.le_of_ble_eq_true rfl) dX10_town_102 (fun H locs hW => ?_)
          refine lv_if_ne (tgt := 116) hx hb dX10_town_105 (by decide) (fun c_4 => ?_) (fun c_4 => ?_)
          · skip
            replace c_4 : (decide (S 96 8 < 0)) = true := bI_ne0.mp c_4
            refine lv_aload_n hx hb dX10_town_116 rfl (lv_at hl 1 rfl) ?_
            refine g_callvV (σ' := mSettle S) (rest := []) (As := []) C hW kv_X10_59 96 (by decide) (gL_10 rfl) rfl (m_settles l G S τ) ⟨Nat.le_of_ble_eq_true rfl, Nat.le_of_ble_eq_true rfl⟩ ⟨Nat.le_refl _, Nat.le_refl _⟩ rfl hl.1 rfl (Nat.le_of_ble_eq_true rfl) dX10_town_117 (fun H locs hW => ?_)
            refine lv_iload_n hx hb dX10_town_120 rfl (lv_at hl 0 rfl) ?_
            exact g_iret C hr hlk hW dX10_town_121 (by rw [hf]; rw [if_pos (of_decide_eq_true c_4)]) (by rw [hf]; rw [if_pos (of_decide_eq_true c_4)]) (rfl)
          · skip
            replace c_4 : (decide (S 96 8 < 0)) = false := bI_eq0.mp c_4
            refine lv_bipush (v := (-10)) hx hb dX10_town_108 (by decide) ?_
            refine lv_aload_n hx hb dX10_town_110 rfl (lv_at hl 1 rfl) ?_
            refine gf_X10_93 (v := S 96 8) C hW (by decide) rfl rfl dX10_town_111 ?_
            refine lv_isub hx hb dX10_town_114 ?_
            exact g_iret C hr hlk hW dX10_town_115 (by rw [hf]; rw [if_neg (of_decide_eq_false c_4)]) (by rw [hf]; rw [if_neg (of_decide_eq_false c_4)]) (rfl)
        · skip
          exact absurd hm (by rw [mu, if_pos ⟨of_decide_eq_true c_1, c_3⟩]; have := hp.nx.2; show ¬ t + 1 - nx S ≤ 0; show ¬ t + 1 - (S 96 4).toNatClampNeg ≤ 0; omega)
    | succ n ih25 =>
      intro i_ S H locs ls hm hp hpl hcv hq hW hl
      refine lv_aload_n hx hb dX10_town_25 rfl (lv_at hl 1 rfl) ?_
      refine g_callvI (r := bI (decide (S 96 8 < 0))) (σ' := S) (rest := []) (As := []) C hW kv_X10_96 96 (by decide) (gL_10 rfl) rfl (m_isWell l G S τ) ⟨Nat.le_of_ble_eq_true rfl, Nat.le_of_ble_eq_true rfl⟩ ⟨Nat.le_refl _, Nat.le_refl _⟩ rfl hl.1 rfl (Nat.le_of_ble_eq_true rfl) dX10_town_26 (fun H locs hW => ?_)
      refine lv_if_eq (tgt := 101) hx hb dX10_town_29 (by decide) (fun c_5 => ?_) (fun c_5 => ?_)
      · skip
        replace c_5 : (decide (S 96 8 < 0)) = false := bI_eq0.mp c_5
        have hf : mTown σ t = (S, i_) := by rw [mTown, ← hq, mTownL, if_neg (fun z => absurd z.1 (of_decide_eq_false c_5))]
        refine lv_aload_n hx hb dX10_town_101 rfl (lv_at hl 1 rfl) ?_
        refine g_callvI (r := bI (decide (S 96 8 < 0))) (σ' := S) (rest := []) (As := []) C hW kv_X10_96 96 (by decide) (gL_10 rfl) rfl (m_isWell l G S τ) ⟨Nat.le_of_ble_eq_true rfl, Nat.le_of_ble_eq_true rfl⟩ ⟨Nat.le_refl _, Nat.le_refl _⟩ rfl hl.1 rfl (Nat.le_of_ble_eq_true rfl) dX10_town_102 (fun H locs hW => ?_)
        refine lv_if_ne (tgt := 116) hx hb dX10_town_105 (by decide) (fun c_6 => ?_) (fun c_6 => ?_)
        · skip
          replace c_6 : (decide (S 96 8 < 0)) = true := bI_ne0.mp c_6
          refine lv_aload_n hx hb dX10_town_116 rfl (lv_at hl 1 rfl) ?_
          refine g_callvV (σ' := mSettle S) (rest := []) (As := []) C hW kv_X10_59 96 (by decide) (gL_10 rfl) rfl (m_settles l G S τ) ⟨Nat.le_of_ble_eq_true rfl, Nat.le_of_ble_eq_true rfl⟩ ⟨Nat.le_refl _, Nat.le_refl _⟩ rfl hl.1 rfl (Nat.le_of_ble_eq_true rfl) dX10_town_117 (fun H locs hW => ?_)
          refine lv_iload_n hx hb dX10_town_120 rfl (lv_at hl 0 rfl) ?_
          exact g_iret C hr hlk hW dX10_town_121 (by rw [hf]; rw [if_pos (of_decide_eq_true c_6)]) (by rw [hf]; rw [if_pos (of_decide_eq_true c_6)]) (rfl)
        · skip
          replace c_6 : (decide (S 96 8 < 0)) = false := bI_eq0.mp c_6
          refine lv_bipush (v := (-10)) hx hb dX10_town_108 (by decide) ?_
          refine lv_aload_n hx hb dX10_town_110 rfl (lv_at hl 1 rfl) ?_
          refine gf_X10_93 (v := S 96 8) C hW (by decide) rfl rfl dX10_town_111 ?_
          refine lv_isub hx hb dX10_town_114 ?_
          exact g_iret C hr hlk hW dX10_town_115 (by rw [hf]; rw [if_neg (of_decide_eq_false c_6)]) (by rw [hf]; rw [if_neg (of_decide_eq_false c_6)]) (rfl)
      · skip
        replace c_5 : (decide (S 96 8 < 0)) = true := bI_ne0.mp c_5
        refine lv_aload_n hx hb dX10_town_32 rfl (lv_at hl 1 rfl) ?_
        refine gf_X10_83 (v := S 96 5) C hW (by decide) rfl rfl dX10_town_33 ?_
        refine lv_if_eq (tgt := 101) hx hb dX10_town_36 (by decide) (fun c_7 => ?_) (fun c_7 => ?_)
        · skip
          have hf : mTown σ t = (S, i_) := by rw [mTown, ← hq, mTownL, if_neg (fun z => z.2 c_7)]
          refine lv_aload_n hx hb dX10_town_101 rfl (lv_at hl 1 rfl) ?_
          refine g_callvI (r := bI (decide (S 96 8 < 0))) (σ' := S) (rest := []) (As := []) C hW kv_X10_96 96 (by decide) (gL_10 rfl) rfl (m_isWell l G S τ) ⟨Nat.le_of_ble_eq_true rfl, Nat.le_of_ble_eq_true rfl⟩ ⟨Nat.le_refl _, Nat.le_refl _⟩ rfl hl.1 rfl (Nat.le_of_ble_eq_true rfl) dX10_town_102 (fun H locs hW => ?_)
          refine lv_if_ne (tgt := 116) hx hb dX10_town_105 (by decide) (fun c_8 => ?_) (fun c_8 => ?_)
          · skip
            replace c_8 : (decide (S 96 8 < 0)) = true := bI_ne0.mp c_8
            refine lv_aload_n hx hb dX10_town_116 rfl (lv_at hl 1 rfl) ?_
            refine g_callvV (σ' := mSettle S) (rest := []) (As := []) C hW kv_X10_59 96 (by decide) (gL_10 rfl) rfl (m_settles l G S τ) ⟨Nat.le_of_ble_eq_true rfl, Nat.le_of_ble_eq_true rfl⟩ ⟨Nat.le_refl _, Nat.le_refl _⟩ rfl hl.1 rfl (Nat.le_of_ble_eq_true rfl) dX10_town_117 (fun H locs hW => ?_)
            refine lv_iload_n hx hb dX10_town_120 rfl (lv_at hl 0 rfl) ?_
            exact g_iret C hr hlk hW dX10_town_121 (by rw [hf]; rw [if_pos (of_decide_eq_true c_8)]) (by rw [hf]; rw [if_pos (of_decide_eq_true c_8)]) (rfl)
          · skip
            replace c_8 : (decide (S 96 8 < 0)) = false := bI_eq0.mp c_8
            refine lv_bipush (v := (-10)) hx hb dX10_town_108 (by decide) ?_
            refine lv_aload_n hx hb dX10_town_110 rfl (lv_at hl 1 rfl) ?_
            refine gf_X10_93 (v := S 96 8) C hW (by decide) rfl rfl dX10_town_111 ?_
            refine lv_isub hx hb dX10_town_114 ?_
            exact g_iret C hr hlk hW dX10_town_115 (by rw [hf]; rw [if_neg (of_decide_eq_false c_8)]) (by rw [hf]; rw [if_neg (of_decide_eq_false c_8)]) (rfl)
        · skip
          refine lv_aload_n hx hb dX10_town_39 rfl (lv_at hl 1 rfl) ?_
          have K61 : ∀ (z : Bool), z = (mB1 S i_) → ∀ (H : Heap) (locs : List Loc) (ls : Array Slot), gW G s S τ H locs → lv_has ls 3 [(1, .int (nI i_)), (0, .ref (gAd G 96))] → W p l e (gRm 5 110) s m args below meth c H locs 0 0 (MQ below (gQi G (if (mTown σ t).1 96 8 < 0 then nI (mTown σ t).2 else -10 - (mTown σ t).1 96 8) (if (mTown σ t).1 96 8 < 0 then mSettle (mTown σ t).1 else (mTown σ t).1) τ) args s 0 0 (gA G)) (F0 m 61 ls [.int (bI z), .ref (gAd G 96)]) := by
            intro z hz H locs ls hW hl
            subst hz
            refine g_callvI (r := mTakeR S (mB1 S i_)) (σ' := mTakeS S t (mB1 S i_)) (rest := []) (As := [.int (bI (mB1 S i_))]) C hW kv_X10_103 96 (by decide) (gL_10 rfl) rfl (m_takes l G S τ (mB1 S i_) t hp) ⟨Nat.le_of_ble_eq_true rfl, Nat.le_of_ble_eq_true rfl⟩ ⟨Nat.le_refl _, Nat.le_refl _⟩ rfl hl.1 rfl (Nat.le_of_ble_eq_true rfl) dX10_town_61 (fun H locs hW => ?_)
            refine lv_istore_n (lv' := [(2, .int (mTakeR S (mB1 S i_))), (1, .int (nI i_)), (0, .ref (gAd G 96))]) hx hb dX10_town_64 rfl hl (by decide) rfl (fun ls hl => ?_)
            have K77 : ∀ (H : Heap) (locs : List Loc) (ls : Array Slot), gW G s (mS2 S t i_) τ H locs → lv_has ls 3 [(1, .int (nI i_)), (0, .ref (gAd G 96))] → W p l e (gRm 5 110) s m args below meth c H locs 0 0 (MQ below (gQi G (if (mTown σ t).1 96 8 < 0 then nI (mTown σ t).2 else -10 - (mTown σ t).1 96 8) (if (mTown σ t).1 96 8 < 0 then mSettle (mTown σ t).1 else (mTown σ t).1) τ) args s 0 0 (gA G)) (F0 m 77 ls []) := by
              intro  H locs ls hW hl
              refine lv_aload_n hx hb dX10_town_77 rfl (lv_at hl 1 rfl) ?_
              have K91 : ∀ (z2 : Bool), z2 = (decide (mS2 S t i_ 96 5 = 3)) → ∀ (H : Heap) (locs : List Loc) (ls : Array Slot), gW G s (mS2 S t i_) τ H locs → lv_has ls 3 [(1, .int (nI i_)), (0, .ref (gAd G 96))] → W p l e (gRm 5 110) s m args below meth c H locs 0 0 (MQ below (gQi G (if (mTown σ t).1 96 8 < 0 then nI (mTown σ t).2 else -10 - (mTown σ t).1 96 8) (if (mTown σ t).1 96 8 < 0 then mSettle (mTown σ t).1 else (mTown σ t).1) τ) args s 0 0 (gA G)) (F0 m 91 ls [.int (bI z2), .ref (gAd G 96)]) := by
                intro z2 hz2 H locs ls hW hl
                subst hz2
                refine g_callvI (r := mTakeR (mS2 S t i_) (decide (mS2 S t i_ 96 5 = 3))) (σ' := mTakeS (mS2 S t i_) t (decide (mS2 S t i_ 96 5 = 3))) (rest := []) (As := [.int (bI (decide (mS2 S t i_ 96 5 = 3)))]) C hW kv_X10_103 96 (by decide) (gL_10 rfl) rfl (m_takes l G (mS2 S t i_) τ (decide (mS2 S t i_ 96 5 = 3)) t (pOk_s2 hp)) ⟨Nat.le_of_ble_eq_true rfl, Nat.le_of_ble_eq_true rfl⟩ ⟨Nat.le_refl _, Nat.le_refl _⟩ rfl hl.1 rfl (Nat.le_of_ble_eq_true rfl) dX10_town_91 (fun H locs hW => ?_)
                refine lv_pop hx hb dX10_town_94 rfl ?_
                refine lv_iinc (v := nI (i_ + 1)) (lv' := [(1, .int (nI (i_ + 1))), (0, .ref (gAd G 96))]) hx hb dX10_town_95 hl (k := 0) rfl (nI_1 _) (by decide) rfl (fun ls hl => ?_)
                refine lv_goto (tgt := 25) hx hb dX10_town_98 (by decide) ?_
                exact ih25 (i_ + 1) (mStep S t i_) _ _ _ (by have := step_mu (i := i_) hp hpl (of_decide_eq_true c_5) c_7; omega) (pOk_take (pOk_s2 hp)) (plOk_take (pOk_s2 hp) (plOk_s2 hp hpl)) (cInv_step hpl hcv) (by rw [← hq, mTownL, if_pos ⟨of_decide_eq_true c_5, c_7⟩]) hW (lv_sub hl [0, 1] rfl)
              refine lv_aload_n hx hb dX10_town_78 rfl (lv_at hl 1 rfl) ?_
              refine gf_X10_83 (v := (mS2 S t i_) 96 5) C hW (by decide) rfl rfl dX10_town_79 ?_
              refine lv_iconst (v := 3) hx hb dX10_town_82 (by decide) ?_
              refine lv_icmp_ne (tgt := 90) hx hb dX10_town_83 (by decide) (fun c_9 => ?_) (fun c_9 => ?_)
              · skip
                refine lv_iconst (v := 0) hx hb dX10_town_90 (by decide) ?_
                exact K91 false (by simp [c_9]) _ _ _ hW (lv_sub hl [0, 1] rfl)
              · skip
                refine lv_iconst (v := 1) hx hb dX10_town_86 (by decide) ?_
                refine lv_goto (tgt := 91) hx hb dX10_town_87 (by decide) ?_
                exact K91 true (by simp [c_9]) _ _ _ hW (lv_sub hl [0, 1] rfl)
            refine lv_aload_n hx hb dX10_town_65 rfl (lv_at hl 2 rfl) ?_
            refine g_callvI (r := bI (decide ((mTakeS S t (mB1 S i_)) 96 8 < 0))) (σ' := mTakeS S t (mB1 S i_)) (rest := []) (As := []) C hW kv_X10_96 96 (by decide) (gL_10 rfl) rfl (m_isWell l G (mTakeS S t (mB1 S i_)) τ) ⟨Nat.le_of_ble_eq_true rfl, Nat.le_of_ble_eq_true rfl⟩ ⟨Nat.le_refl _, Nat.le_refl _⟩ rfl hl.1 rfl (Nat.le_of_ble_eq_true rfl) dX10_town_66 (fun H locs hW => ?_)
            refine lv_if_eq (tgt := 77) hx hb dX10_town_69 (by decide) (fun c_10 => ?_) (fun c_10 => ?_)
            · skip
              replace c_10 : (decide ((mTakeS S t (mB1 S i_)) 96 8 < 0)) = false := bI_eq0.mp c_10
              exact K77   _ _ _ (by rw [mS2, if_neg (of_decide_eq_false c_10)]; exact hW) (lv_sub hl [1, 2] rfl)
            · skip
              replace c_10 : (decide ((mTakeS S t (mB1 S i_)) 96 8 < 0)) = true := bI_ne0.mp c_10
              have hcs := s1_counts hpl hcv (of_decide_eq_true c_10)
              refine lv_aload_n hx hb dX10_town_72 rfl (lv_at hl 2 rfl) ?_
              refine lv_iload_n hx hb dX10_town_73 rfl (lv_at hl 0 rfl) ?_
              refine g_callvV (σ' := mItemS (mTakeS S t (mB1 S i_)) t (mTakeR S (mB1 S i_))) (rest := []) (As := [.int (mTakeR S (mB1 S i_))]) C hW kv_X10_117 96 (by decide) (gL_10 rfl) rfl (m_readsItem l G (mTakeS S t (mB1 S i_)) τ (mTakeR S (mB1 S i_)) t (pOk_take hp) hcs.1 hcs.2.1 hcs.2.2.1 hcs.2.2.2) ⟨Nat.le_of_ble_eq_true rfl, Nat.le_of_ble_eq_true rfl⟩ ⟨Nat.le_refl _, Nat.le_refl _⟩ rfl hl.1 rfl (Nat.le_of_ble_eq_true rfl) dX10_town_74 (fun H locs hW => ?_)
              exact K77   _ _ _ (by rw [mS2, if_pos (of_decide_eq_true c_10)]; exact hW) (lv_sub hl [1, 2] rfl)
          refine lv_aload_n hx hb dX10_town_40 rfl (lv_at hl 1 rfl) ?_
          refine gf_X10_83 (v := S 96 5) C hW (by decide) rfl rfl dX10_town_41 ?_
          refine lv_iconst (v := 1) hx hb dX10_town_44 (by decide) ?_
          refine lv_icmp_ne (tgt := 60) hx hb dX10_town_45 (by decide) (fun c_11 => ?_) (fun c_11 => ?_)
          · skip
            refine lv_iconst (v := 0) hx hb dX10_town_60 (by decide) ?_
            exact K61 false (by simp [mB1, c_11]) _ _ _ hW (lv_sub hl [0, 1] rfl)
          · skip
            refine lv_aload_n hx hb dX10_town_48 rfl (lv_at hl 1 rfl) ?_
            refine lv_iload_n hx hb dX10_town_49 rfl (lv_at hl 0 rfl) ?_
            refine g_callvI (r := bI (mMay S (nI i_))) (σ' := S) (rest := [.ref (gAd G 96)]) (As := [.int (nI i_)]) C hW kv_X10_114 96 (by decide) (gL_10 rfl) rfl (m_mayBegin l G S τ (nI i_)) ⟨Nat.le_of_ble_eq_true rfl, Nat.le_of_ble_eq_true rfl⟩ ⟨Nat.le_refl _, Nat.le_refl _⟩ rfl hl.1 rfl (Nat.le_of_ble_eq_true rfl) dX10_town_50 (fun H locs hW => ?_)
            refine lv_if_eq (tgt := 60) hx hb dX10_town_53 (by decide) (fun c_12 => ?_) (fun c_12 => ?_)
            · skip
              replace c_12 : (mMay S (nI i_)) = false := bI_eq0.mp c_12
              refine lv_iconst (v := 0) hx hb dX10_town_60 (by decide) ?_
              exact K61 false (by simp [mB1, c_11, c_12]) _ _ _ hW (lv_sub hl [0, 1] rfl)
            · skip
              replace c_12 : (mMay S (nI i_)) = true := bI_ne0.mp c_12
              refine lv_iconst (v := 1) hx hb dX10_town_56 (by decide) ?_
              refine lv_goto (tgt := 61) hx hb dX10_town_57 (by decide) ?_
              exact K61 true (by simp [mB1, c_11, c_12]) _ _ _ hW (lv_sub hl [0, 1] rfl)
  exact L25 (t + 1) 0 (mTown0 σ t) _ _ _ (by unfold mu; split <;> omega) (pOk_adv (⟨ht, ht2, 0, Nat.zero_le _, rfl⟩ : pOk (mBegS (gu (gu σ 96 8 (-1)) 96 4 0)) t)) (plOk_adv (⟨ht, ht2, 0, Nat.zero_le _, rfl⟩ : pOk (mBegS (gu (gu σ 96 8 (-1)) 96 4 0)) t)) (cInv_rows (congrFun (mAdvS_ne (by decide)) 6) (congrFun (mAdvS_ne (by decide)) 7) ⟨0, 0, by decide, by decide, rfl, rfl⟩) rfl hW (lv_sub hl [0, 1] rfl)
