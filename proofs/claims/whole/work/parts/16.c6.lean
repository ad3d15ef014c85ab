/-! ===== the class: items ===== -/
def kRefS (σ : gSt) : gSt := if σ 1 3 = -9 then gu σ 1 3 (σ 1 5) else σ
def kWordS (σ : gSt) (t : Nat) (b : Bool) : gSt := if b = true then kAdvS σ t else kRefS σ
def kNumOk (σ : gSt) (a b : Int32) : Bool := decide (σ 1 4 = -2) && (!decide (σ 1 6 < a) && decide (σ 1 6 ≤ b))
def kNumS (σ : gSt) (t : Nat) (a b : Int32) : gSt := if σ 1 3 = -9 then (if kNumOk σ a b = true then kAdvS σ t else kRefS σ) else σ
def kNumR (σ : gSt) (a b : Int32) : Int32 := if σ 1 3 = -9 then (if kNumOk σ a b = true then σ 1 6 else a) else a
theorem kAdvS_ne {σ : gSt} {t c : Nat} (h : c ≠ 1) : kAdvS σ t c = σ c := kPS_ne h
theorem kRefS_ne {σ : gSt} {c : Nat} (h : c ≠ 1) : kRefS σ c = σ c := by
  unfold kRefS; split
  · exact gu_ne h
  · rfl
theorem kWordS_ne {σ : gSt} {t c : Nat} {b : Bool} (h : c ≠ 1) : kWordS σ t b c = σ c := by
  unfold kWordS; split
  · exact kAdvS_ne h
  · exact kRefS_ne h
theorem kNumS_ne {σ : gSt} {t c : Nat} {a b : Int32} (h : c ≠ 1) : kNumS σ t a b c = σ c := by
  unfold kNumS; split
  · split
    · exact kAdvS_ne h
    · exact kRefS_ne h
  · rfl
theorem kOk_gu {σ : gSt} {t c k : Nat} {x : Int32} (hc : ¬ (c = 1 ∧ (k = 1 ∨ k = 7))) (h : kOk σ t) : kOk (gu σ c k x) t := by
  obtain ⟨h1, h2, q, h3, h4⟩ := h
  refine ⟨?_, h2, q, h3, ?_⟩
  · rw [gu_at, if_neg (fun z => hc ⟨z.1.symm, Or.inl z.2.symm⟩)]; exact h1
  · rw [gu_at, if_neg (fun z => hc ⟨z.1.symm, Or.inr z.2.symm⟩)]; exact h4
theorem kOk_ref {σ : gSt} {t : Nat} (h : kOk σ t) : kOk (kRefS σ) t := by
  unfold kRefS; split
  · exact kOk_gu (by decide) h
  · exact h
theorem kOk_word {σ : gSt} {t : Nat} {b : Bool} (h : kOk σ t) : kOk (kWordS σ t b) t := by
  unfold kWordS; split
  · exact kOk_adv h
  · exact kOk_ref h
theorem kOk_num {σ : gSt} {t : Nat} {a b : Int32} (h : kOk σ t) : kOk (kNumS σ t a b) t := by
  unfold kNumS; split
  · split
    · exact kOk_adv h
    · exact kOk_ref h
  · exact h
def saOk (S : gSt) : Prop := ∃ pl, pl ≤ 200 ∧ S 1 5 = nI pl
theorem kadv_o {S : gSt} {t j : Nat} (h4 : j ≠ 7) (h5 : j ≠ 4) (h6 : j ≠ 5) (h7 : j ≠ 6) : kAdvS S t 1 j = S 1 j := by rw [kAdvS, kPS_at]; simp [h4, h5, h6, h7]
theorem saOk_adv {S : gSt} {t : Nat} (h : kOk S t) : saOk (kAdvS S t) := ⟨kK S t, Nat.le_trans (kK_le h) h.2.1, by rw [kAdvS, kPS_at]; simp⟩
theorem saOk_gu {S : gSt} {c k : Nat} {x : Int32} (hc : ¬ (c = 1 ∧ k = 5)) (h : saOk S) : saOk (gu S c k x) := by
  obtain ⟨pl, h1, h2⟩ := h
  exact ⟨pl, h1, by rw [gu_at, if_neg (fun z => hc ⟨z.1.symm, z.2.symm⟩)]; exact h2⟩
theorem saOk_ref {S : gSt} (h : saOk S) : saOk (kRefS S) := by
  unfold kRefS; split
  · exact saOk_gu (by decide) h
  · exact h
theorem saOk_word {S : gSt} {t : Nat} {b : Bool} (hp : kOk S t) (h : saOk S) : saOk (kWordS S t b) := by
  unfold kWordS; split
  · exact saOk_adv hp
  · exact saOk_ref h
theorem saOk_num {S : gSt} {t : Nat} {a b : Int32} (hp : kOk S t) (h : saOk S) : saOk (kNumS S t a b) := by
  unfold kNumS; split
  · split
    · exact saOk_adv hp
    · exact saOk_ref h
  · exact h
theorem nI_m9 {n : Nat} (h : n < 2 ^ 30) : ¬ nI n = -9 := by
  intro e
  have := congrArg Int32.toInt e
  rw [nI_toInt (by omega)] at this
  have h2 : (-9 : Int32).toInt = -9 := by decide
  omega
theorem ref_fault {S : gSt} (h : saOk S) : ¬ kRefS S 1 3 = -9 := by
  unfold kRefS
  split
  · obtain ⟨pl, h1, h2⟩ := h
    rw [gu_at, if_pos ⟨rfl, rfl⟩, h2]
    exact nI_m9 (by omega)
  · next q => exact q
theorem word_ok {S : gSt} {t : Nat} {b : Bool} (h : saOk S) (hw : kWordS S t b 1 3 = -9) : b = true ∧ S 1 3 = -9 := by
  unfold kWordS at hw
  cases b with
  | true => rw [if_pos rfl, kadv_o (by decide) (by decide) (by decide) (by decide)] at hw; exact ⟨rfl, hw⟩
  | false => rw [if_neg (by decide)] at hw; exact absurd hw (ref_fault h)
theorem num_ok {S : gSt} {t : Nat} {a b : Int32} (h : saOk S) (hw : kNumS S t a b 1 3 = -9) : kNumOk S a b = true ∧ S 1 3 = -9 := by
  unfold kNumS at hw
  by_cases q : S 1 3 = -9
  · rw [if_pos q] at hw
    by_cases q2 : kNumOk S a b = true
    · exact ⟨q2, q⟩
    · rw [if_neg q2] at hw; exact absurd hw (ref_fault h)
  · rw [if_neg q] at hw; exact absurd hw q
/-- the counts of the draft -/
def dInv (S : gSt) : Prop := ∃ a b, a ≤ 5 ∧ b ≤ 8 ∧ S 3 1 = nI a ∧ S 3 2 = nI b
abbrev d1 (σ : gSt) : Nat := (σ 3 1).toNatClampNeg
abbrev d2 (σ : gSt) : Nat := (σ 3 2).toNatClampNeg
def kP1 (σ : gSt) (t : Nat) : gSt := kWordS σ t (!decide (5 ≤ σ 3 1))
def kP2 (σ : gSt) (t : Nat) : gSt := kNumS (kP1 σ t) t 0 (σ 3 0 - 1)
def kPersonS (σ : gSt) (t : Nat) : gSt := if kP2 σ t 1 3 = -9 then gu (gu (kP2 σ t) 4 (d1 σ) (kNumR (kP1 σ t) 0 (σ 3 0 - 1))) 3 1 (σ 3 1 + 1) else kP2 σ t
def kD1 (σ : gSt) (t : Nat) : gSt := kWordS σ t (!decide (8 ≤ σ 3 2))
def kD2 (σ : gSt) (t : Nat) : gSt := kNumS (kD1 σ t) t 0 (σ 3 1 - 1)
def kD3 (σ : gSt) (t : Nat) : gSt := kNumS (kD2 σ t) t 0 (σ 3 0 - 1)
def kD4 (σ : gSt) (t : Nat) : gSt := kNumS (kD3 σ t) t 0 239
def kD5 (σ : gSt) (t : Nat) : gSt := kNumS (kD4 σ t) t 1 60
def kDutyS (σ : gSt) (t : Nat) : gSt := if kD5 σ t 1 3 = -9 then gu (gu (gu (gu (gu (kD5 σ t) 5 (d2 σ) (kNumR (kD1 σ t) 0 (σ 3 1 - 1))) 6 (d2 σ) (kNumR (kD2 σ t) 0 (σ 3 0 - 1))) 7 (d2 σ) (kNumR (kD3 σ t) 0 239)) 8 (d2 σ) (kNumR (kD4 σ t) 1 60)) 3 2 (σ 3 2 + 1) else kD5 σ t
def kW0 (σ : gSt) (t : Nat) : gSt := gu (kWordS σ t (decide (σ 1 8 = 0))) 1 8 (bI true)
def kWalkS (σ : gSt) (t : Nat) : gSt := gu (kNumS (kW0 σ t) t 1 9) 3 3 (kNumR (kW0 σ t) 1 9)
def kF0 (σ : gSt) (t : Nat) : gSt := gu (kWordS σ t (decide (σ 1 9 = 0))) 1 9 (bI true)
def kFreeS (σ : gSt) (t : Nat) : gSt := gu (kNumS (kF0 σ t) t 0 9) 3 4 (kNumR (kF0 σ t) 0 9)
def kPlacesS (σ : gSt) (t : Nat) (b : Bool) : gSt := gu (kNumS (kWordS σ t b) t 2 6) 3 0 (kNumR (kWordS σ t b) 2 6)
def kI1 (σ : gSt) (t : Nat) (b : Bool) : gSt := if σ 1 4 = 100 then kDutyS σ t else if σ 1 4 = 102 then kFreeS σ t else if σ 1 4 = 103 then kWalkS σ t else if σ 1 4 = 112 then kPersonS σ t else if σ 1 4 = 119 then kPlacesS σ t b else kRefS σ
def kItemS (σ : gSt) (t : Nat) (b : Bool) : gSt := if kI1 σ t b 1 4 = 59 then kAdvS (kI1 σ t b) t else kRefS (kI1 σ t b)
theorem kOk_p {σ : gSt} {t : Nat} (h : kOk σ t) : kOk (kPersonS σ t) t := by
  unfold kPersonS kP2 kP1
  split
  · exact kOk_gu (by decide) (kOk_gu (fun q => absurd q.1 (by decide)) (kOk_num (kOk_word h)))
  · exact kOk_num (kOk_word h)
theorem kOk_d {σ : gSt} {t : Nat} (h : kOk σ t) : kOk (kDutyS σ t) t := by
  have h5 : kOk (kD5 σ t) t := by unfold kD5 kD4 kD3 kD2 kD1; exact kOk_num (kOk_num (kOk_num (kOk_num (kOk_word h))))
  unfold kDutyS
  split
  · exact kOk_gu (by decide) (kOk_gu (fun q => absurd q.1 (by decide)) (kOk_gu (fun q => absurd q.1 (by decide)) (kOk_gu (fun q => absurd q.1 (by decide)) (kOk_gu (fun q => absurd q.1 (by decide)) h5))))
  · exact h5
theorem kOk_i1 {σ : gSt} {t : Nat} {b : Bool} (h : kOk σ t) : kOk (kI1 σ t b) t := by
  unfold kI1
  split
  · exact kOk_d h
  · split
    · exact kOk_gu (by decide) (kOk_num (kOk_gu (by decide) (kOk_word h)))
    · split
      · exact kOk_gu (by decide) (kOk_num (kOk_gu (by decide) (kOk_word h)))
      · split
        · exact kOk_p h
        · split
          · exact kOk_gu (by decide) (kOk_num (kOk_word h))
          · exact kOk_ref h
theorem kOk_item {σ : gSt} {t : Nat} {b : Bool} (h : kOk σ t) : kOk (kItemS σ t b) t := by
  unfold kItemS; split
  · exact kOk_adv (kOk_i1 h)
  · exact kOk_ref (kOk_i1 h)
theorem saOk_p {σ : gSt} {t : Nat} (hp : kOk σ t) (h : saOk σ) : saOk (kPersonS σ t) := by
  unfold kPersonS kP2 kP1
  split
  · exact saOk_gu (by decide) (saOk_gu (fun q => absurd q.1 (by decide)) (saOk_num (kOk_word hp) (saOk_word hp h)))
  · exact saOk_num (kOk_word hp) (saOk_word hp h)
theorem saOk_d5 {σ : gSt} {t : Nat} (hp : kOk σ t) (h : saOk σ) : saOk (kD1 σ t) ∧ saOk (kD2 σ t) ∧ saOk (kD3 σ t) ∧ saOk (kD4 σ t) ∧ saOk (kD5 σ t) := by
  have h1 : kOk (kD1 σ t) t := kOk_word hp
  have s1 : saOk (kD1 σ t) := saOk_word hp h
  have h2 : kOk (kD2 σ t) t := kOk_num h1
  have s2 : saOk (kD2 σ t) := saOk_num h1 s1
  have h3 : kOk (kD3 σ t) t := kOk_num h2
  have s3 : saOk (kD3 σ t) := saOk_num h2 s2
  have h4 : kOk (kD4 σ t) t := kOk_num h3
  have s4 : saOk (kD4 σ t) := saOk_num h3 s3
  exact ⟨s1, s2, s3, s4, saOk_num h4 s4⟩
theorem saOk_d {σ : gSt} {t : Nat} (hp : kOk σ t) (h : saOk σ) : saOk (kDutyS σ t) := by
  have h5 := (saOk_d5 hp h).2.2.2.2
  unfold kDutyS
  split
  · exact saOk_gu (by decide) (saOk_gu (fun q => absurd q.1 (by decide)) (saOk_gu (fun q => absurd q.1 (by decide)) (saOk_gu (fun q => absurd q.1 (by decide)) (saOk_gu (fun q => absurd q.1 (by decide)) h5))))
  · exact h5
theorem saOk_i1 {σ : gSt} {t : Nat} {b : Bool} (hp : kOk σ t) (h : saOk σ) : saOk (kI1 σ t b) := by
  unfold kI1
  split
  · exact saOk_d hp h
  · split
    · exact saOk_gu (by decide) (saOk_num (kOk_gu (by decide) (kOk_word hp)) (saOk_gu (by decide) (saOk_word hp h)))
    · split
      · exact saOk_gu (by decide) (saOk_num (kOk_gu (by decide) (kOk_word hp)) (saOk_gu (by decide) (saOk_word hp h)))
      · split
        · exact saOk_p hp h
        · split
          · exact saOk_gu (by decide) (saOk_num (kOk_word hp) (saOk_word hp h))
          · exact saOk_ref h
theorem saOk_item {σ : gSt} {t : Nat} {b : Bool} (hp : kOk σ t) (h : saOk σ) : saOk (kItemS σ t b) := by
  unfold kItemS; split
  · exact saOk_adv (kOk_i1 hp)
  · exact saOk_ref (saOk_i1 hp h)
theorem p2_3 {σ : gSt} {t : Nat} : kP2 σ t 3 = σ 3 := by rw [kP2, kNumS_ne (by decide), kP1, kWordS_ne (by decide)]
theorem d5_3 {σ : gSt} {t : Nat} : kD5 σ t 3 = σ 3 := by
  rw [kD5, kNumS_ne (by decide), kD4, kNumS_ne (by decide), kD3, kNumS_ne (by decide), kD2, kNumS_ne (by decide), kD1, kWordS_ne (by decide)]
theorem p_room {σ : gSt} {t : Nat} (hp : kOk σ t) (h : saOk σ) (hd : dInv σ) (hw : kP2 σ t 1 3 = -9) : d1 σ < 5 ∧ σ 3 1 = nI (d1 σ) := by
  obtain ⟨a, b, h1, h2, h3, h4⟩ := hd
  have q := (num_ok (saOk_word hp h) hw).2
  have q2 := (word_ok h q).1
  have e : d1 σ = a := by show (σ 3 1).toNatClampNeg = a; rw [h3, nI_clamp (by omega)]
  rw [e, h3]
  refine ⟨?_, rfl⟩
  rcases Nat.lt_or_ge a 5 with y | y
  · exact y
  · rw [h3, decide_eq_true (show (5 : Int32) ≤ nI a from nI_le y (by omega))] at q2
    cases q2
theorem d_room {σ : gSt} {t : Nat} (hp : kOk σ t) (h : saOk σ) (hd : dInv σ) (hw : kD5 σ t 1 3 = -9) : d2 σ < 8 ∧ σ 3 2 = nI (d2 σ) := by
  obtain ⟨a, b, h1, h2, h3, h4⟩ := hd
  obtain ⟨s1, s2, s3, s4, -⟩ := saOk_d5 hp h
  have q4 := (num_ok s4 hw).2
  have q3 := (num_ok s3 q4).2
  have q2 := (num_ok s2 q3).2
  have q1 := (num_ok s1 q2).2
  have q0 := (word_ok h q1).1
  have e : d2 σ = b := by show (σ 3 2).toNatClampNeg = b; rw [h4, nI_clamp (by omega)]
  rw [e, h4]
  refine ⟨?_, rfl⟩
  rcases Nat.lt_or_ge b 8 with y | y
  · exact y
  · rw [h4, decide_eq_true (show (8 : Int32) ≤ nI b from nI_le y (by omega))] at q0
    cases q0
theorem dInv_rows {S T : gSt} (h6 : T 3 1 = S 3 1) (h7 : T 3 2 = S 3 2) (h : dInv S) : dInv T := by
  obtain ⟨a, b, h1, h2, h3, h4⟩ := h
  exact ⟨a, b, h1, h2, by rw [h6]; exact h3, by rw [h7]; exact h4⟩
theorem dInv_i1 {σ : gSt} {t : Nat} {b : Bool} (hp : kOk σ t) (h : saOk σ) (hd : dInv σ) : dInv (kI1 σ t b) := by
  unfold kI1
  split
  · unfold kDutyS
    split
    · next q =>
      have r := d_room hp h hd q
      obtain ⟨a, b, h1, h2, h3, h4⟩ := hd
      have e : d2 σ = b := by show (σ 3 2).toNatClampNeg = b; rw [h4, nI_clamp (by omega)]
      rw [e] at r
      exact ⟨a, b + 1, h1, r.1, by rw [gu_at, if_neg (by decide), gu_ne (by decide), gu_ne (by decide), gu_ne (by decide), gu_ne (by decide), d5_3]; exact h3, by rw [gu_at, if_pos ⟨rfl, rfl⟩, h4, nI_1]⟩
    · exact dInv_rows (congrFun d5_3 1) (congrFun d5_3 2) hd
  · split
    · exact dInv_rows (by rw [kFreeS, gu_at, if_neg (by decide), kNumS_ne (by decide), kF0, gu_ne (by decide), kWordS_ne (by decide)]) (by rw [kFreeS, gu_at, if_neg (by decide), kNumS_ne (by decide), kF0, gu_ne (by decide), kWordS_ne (by decide)]) hd
    · split
      · exact dInv_rows (by rw [kWalkS, gu_at, if_neg (by decide), kNumS_ne (by decide), kW0, gu_ne (by decide), kWordS_ne (by decide)]) (by rw [kWalkS, gu_at, if_neg (by decide), kNumS_ne (by decide), kW0, gu_ne (by decide), kWordS_ne (by decide)]) hd
      · split
        · unfold kPersonS
          split
          · next q =>
            have r := p_room hp h hd q
            obtain ⟨a, b, h1, h2, h3, h4⟩ := hd
            have e : d1 σ = a := by show (σ 3 1).toNatClampNeg = a; rw [h3, nI_clamp (by omega)]
            rw [e] at r
            exact ⟨a + 1, b, r.1, h2, by rw [gu_at, if_pos ⟨rfl, rfl⟩, h3, nI_1], by rw [gu_at, if_neg (by decide), gu_ne (by decide), p2_3]; exact h4⟩
          · exact dInv_rows (congrFun p2_3 1) (congrFun p2_3 2) hd
        · split
          · exact dInv_rows (by rw [kPlacesS, gu_at, if_neg (by decide), kNumS_ne (by decide), kWordS_ne (by decide)]) (by rw [kPlacesS, gu_at, if_neg (by decide), kNumS_ne (by decide), kWordS_ne (by decide)]) hd
          · exact dInv_rows (congrFun (kRefS_ne (by decide)) 1) (congrFun (kRefS_ne (by decide)) 2) hd
theorem dInv_item {σ : gSt} {t : Nat} {b : Bool} (hp : kOk σ t) (h : saOk σ) (hd : dInv σ) : dInv (kItemS σ t b) := by
  unfold kItemS; split
  · exact dInv_rows (congrFun (kAdvS_ne (by decide)) 1) (congrFun (kAdvS_ne (by decide)) 2) (dInv_i1 hp h hd)
  · exact dInv_rows (congrFun (kRefS_ne (by decide)) 1) (congrFun (kRefS_ne (by decide)) 2) (dInv_i1 hp h hd)
def kReadL (t : Nat) : Nat → gSt → Nat → gSt × Nat
  | 0, S, i => (S, i)
  | n + 1, S, i => if S 1 4 = -1 ∨ ¬ S 1 3 = -9 then (S, i) else kReadL t n (kItemS S t (decide (nI i = 0))) (i + 1)
def kRead0 (σ : gSt) (t : Nat) : gSt := kAdvS (gu (gu (gu (gu (kReset σ) 1 8 (bI false)) 1 9 (bI false)) 1 3 (-9)) 1 7 0) t
def kRead (σ : gSt) (t : Nat) : gSt × Nat := kReadL t 200 (kRead0 σ t) 0
set_option maxHeartbeats 4000000 in
set_option maxRecDepth 100000 in
theorem k_refuse (l : Launch) (G : gG) (σ : gSt) (τ : Nat → Int64) : gV l yX6_refuseToken cX6_refuseToken 1 (none : Option Jvm.ClassFile.FieldType) 1 20 G [.ref (gAd G 1)] σ τ (kRefS σ) τ := by
  refine gMet_of (by decide) (Nat.le_of_ble_eq_true rfl) ?_
  intro p e s m args below meth c C hr hlk ls hl hW
  have hx := C.1
  have hb := C.2.1
  have hl : lv_has ls 1 [(0, .ref (gAd G 1))] := hl
  refine lv_aload_n hx hb dX6_refuseToken_0 rfl (lv_at hl 0 rfl) ?_
  refine g_callvI (r := bI (!decide (σ 1 3 = -9))) (σ' := σ) (rest := []) (As := []) C hW kv_X6_48 1 (by decide) (gL_6 rfl) rfl (k_hasFault l G σ τ) ⟨Nat.le_of_ble_eq_true rfl, Nat.le_of_ble_eq_true rfl⟩ ⟨Nat.le_refl _, Nat.le_refl _⟩ rfl hl.1 rfl (Nat.le_of_ble_eq_true rfl) dX6_refuseToken_1 (fun H locs hW => ?_)
  refine lv_if_ne (tgt := 15) hx hb dX6_refuseToken_4 (by decide) (fun c_1 => ?_) (fun c_1 => ?_)
  · skip
    replace c_1 : (!decide (σ 1 3 = -9)) = true := bI_ne0.mp c_1
    exact g_vret C hr hlk hW dX6_refuseToken_15 (by rw [kRefS, if_neg (by simpa using c_1)]) (rfl)
  · skip
    replace c_1 : (!decide (σ 1 3 = -9)) = false := bI_eq0.mp c_1
    refine lv_aload_n hx hb dX6_refuseToken_7 rfl (lv_at hl 0 rfl) ?_
    refine lv_aload_n hx hb dX6_refuseToken_8 rfl (lv_at hl 0 rfl) ?_
    refine gf_X6_114 (v := σ 1 5) C hW (by decide) rfl rfl dX6_refuseToken_9 ?_
    refine gp_X6_22 C hW (by decide) rfl dX6_refuseToken_12 (fun H locs hW => ?_)
    exact g_vret C hr hlk hW dX6_refuseToken_15 (by rw [kRefS, if_pos (by simpa using c_1)]) (rfl)
set_option maxHeartbeats 4000000 in
set_option maxRecDepth 100000 in
theorem k_readWord (l : Launch) (G : gG) (σ : gSt) (τ : Nat → Int64) (b : Bool) (t : Nat) (hp : kOk σ t) : gV l yX6_readWord cX6_readWord 2 (none : Option Jvm.ClassFile.FieldType) 2 42 G [.ref (gAd G 1), .int (bI b)] σ τ (kWordS σ t b) τ := by
  refine gMet_of (by decide) (Nat.le_of_ble_eq_true rfl) ?_
  intro p e s m args below meth c C hr hlk ls hl hW
  have hx := C.1
  have hb := C.2.1
  have hl : lv_has ls 2 [(0, .ref (gAd G 1)), (1, .int (bI b))] := hl
  refine lv_iload_n hx hb dX6_readWord_0 rfl (lv_at hl 1 rfl) ?_
  refine lv_if_eq (tgt := 11) hx hb dX6_readWord_1 (by decide) (fun c_1 => ?_) (fun c_1 => ?_)
  · skip
    replace c_1 : b = false := bI_eq0.mp c_1
    refine lv_aload_n hx hb dX6_readWord_11 rfl (lv_at hl 0 rfl) ?_
    refine g_callvV (σ' := kRefS σ) (rest := []) (As := []) C hW kv_X6_71 1 (by decide) (gL_6 rfl) rfl (k_refuse l G σ τ) ⟨Nat.le_of_ble_eq_true rfl, Nat.le_of_ble_eq_true rfl⟩ ⟨Nat.le_refl _, Nat.le_refl _⟩ rfl hl.1 rfl (Nat.le_of_ble_eq_true rfl) dX6_readWord_12 (fun H locs hW => ?_)
    exact g_vret C hr hlk hW dX6_readWord_15 (by rw [kWordS, if_neg (bneg c_1)]) (rfl)
  · skip
    replace c_1 : b = true := bI_ne0.mp c_1
    refine lv_aload_n hx hb dX6_readWord_4 rfl (lv_at hl 0 rfl) ?_
    refine g_callvV (σ' := kAdvS σ t) (rest := []) (As := []) C hW kv_X6_42 1 (by decide) (gL_6 rfl) rfl (k_nextToken l G σ τ t hp) ⟨Nat.le_of_ble_eq_true rfl, Nat.le_of_ble_eq_true rfl⟩ ⟨Nat.le_refl _, Nat.le_refl _⟩ rfl hl.1 rfl (Nat.le_of_ble_eq_true rfl) dX6_readWord_5 (fun H locs hW => ?_)
    refine lv_goto (tgt := 15) hx hb dX6_readWord_8 (by decide) ?_
    exact g_vret C hr hlk hW dX6_readWord_15 (by rw [kWordS, if_pos c_1]) (rfl)
set_option maxHeartbeats 4000000 in
set_option maxRecDepth 100000 in
theorem k_readNumber (l : Launch) (G : gG) (σ : gSt) (τ : Nat → Int64) (a0 a1 : Int32) (t : Nat) (hp : kOk σ t) : gI l yX6_readNumber cX6_readNumber 4 (some .int) 2 42 G [.ref (gAd G 1), .int a0, .int a1] σ τ (kNumR σ a0 a1) (kNumS σ t a0 a1) τ := by
  refine gMet_of (by decide) (Nat.le_of_ble_eq_true rfl) ?_
  intro p e s m args below meth c C hr hlk ls hl hW
  have hx := C.1
  have hb := C.2.1
  have hl : lv_has ls 4 [(0, .ref (gAd G 1)), (1, .int a0), (2, .int a1)] := hl
  refine lv_aload_n hx hb dX6_readNumber_0 rfl (lv_at hl 0 rfl) ?_
  refine g_callvI (r := bI (!decide (σ 1 3 = -9))) (σ' := σ) (rest := []) (As := []) C hW kv_X6_48 1 (by decide) (gL_6 rfl) rfl (k_hasFault l G σ τ) ⟨Nat.le_of_ble_eq_true rfl, Nat.le_of_ble_eq_true rfl⟩ ⟨Nat.le_refl _, Nat.le_refl _⟩ rfl hl.1 rfl (Nat.le_of_ble_eq_true rfl) dX6_readNumber_1 (fun H locs hW => ?_)
  refine lv_if_eq (tgt := 9) hx hb dX6_readNumber_4 (by decide) (fun c_1 => ?_) (fun c_1 => ?_)
  · skip
    replace c_1 : (!decide (σ 1 3 = -9)) = false := bI_eq0.mp c_1
    refine lv_aload_n hx hb dX6_readNumber_9 rfl (lv_at hl 0 rfl) ?_
    refine gf_X6_45 (v := σ 1 4) C hW (by decide) rfl rfl dX6_readNumber_10 ?_
    refine lv_bipush (v := (-2)) hx hb dX6_readNumber_13 (by decide) ?_
    refine lv_icmp_ne (tgt := 34) hx hb dX6_readNumber_15 (by decide) (fun c_2 => ?_) (fun c_2 => ?_)
    · skip
      refine lv_aload_n hx hb dX6_readNumber_34 rfl (lv_at hl 0 rfl) ?_
      refine g_callvV (σ' := kRefS σ) (rest := []) (As := []) C hW kv_X6_71 1 (by decide) (gL_6 rfl) rfl (k_refuse l G σ τ) ⟨Nat.le_of_ble_eq_true rfl, Nat.le_of_ble_eq_true rfl⟩ ⟨Nat.le_refl _, Nat.le_refl _⟩ rfl hl.1 rfl (Nat.le_of_ble_eq_true rfl) dX6_readNumber_35 (fun H locs hW => ?_)
      refine lv_iload_n hx hb dX6_readNumber_38 rfl (lv_at hl 1 rfl) ?_
      exact g_iret C hr hlk hW dX6_readNumber_39 (by rw [kNumR, if_pos (by simpa using c_1), if_neg (by simp [kNumOk, c_2])]) (by rw [kNumS, if_pos (by simpa using c_1), if_neg (by simp [kNumOk, c_2])]) (rfl)
    · skip
      refine lv_aload_n hx hb dX6_readNumber_18 rfl (lv_at hl 0 rfl) ?_
      refine gf_X6_111 (v := σ 1 6) C hW (by decide) rfl rfl dX6_readNumber_19 ?_
      refine lv_iload_n hx hb dX6_readNumber_22 rfl (lv_at hl 1 rfl) ?_
      refine lv_icmp_lt (tgt := 34) hx hb dX6_readNumber_23 (by decide) (fun c_3 => ?_) (fun c_3 => ?_)
      · skip
        refine lv_aload_n hx hb dX6_readNumber_34 rfl (lv_at hl 0 rfl) ?_
        refine g_callvV (σ' := kRefS σ) (rest := []) (As := []) C hW kv_X6_71 1 (by decide) (gL_6 rfl) rfl (k_refuse l G σ τ) ⟨Nat.le_of_ble_eq_true rfl, Nat.le_of_ble_eq_true rfl⟩ ⟨Nat.le_refl _, Nat.le_refl _⟩ rfl hl.1 rfl (Nat.le_of_ble_eq_true rfl) dX6_readNumber_35 (fun H locs hW => ?_)
        refine lv_iload_n hx hb dX6_readNumber_38 rfl (lv_at hl 1 rfl) ?_
        exact g_iret C hr hlk hW dX6_readNumber_39 (by rw [kNumR, if_pos (by simpa using c_1), if_neg (by simp [kNumOk, c_2, c_3])]) (by rw [kNumS, if_pos (by simpa using c_1), if_neg (by simp [kNumOk, c_2, c_3])]) (rfl)
      · skip
        refine lv_aload_n hx hb dX6_readNumber_26 rfl (lv_at hl 0 rfl) ?_
        refine gf_X6_111 (v := σ 1 6) C hW (by decide) rfl rfl dX6_readNumber_27 ?_
        refine lv_iload_n hx hb dX6_readNumber_30 rfl (lv_at hl 2 rfl) ?_
        refine lv_icmp_le (tgt := 40) hx hb dX6_readNumber_31 (by decide) (fun c_4 => ?_) (fun c_4 => ?_)
        · skip
          refine lv_aload_n hx hb dX6_readNumber_40 rfl (lv_at hl 0 rfl) ?_
          refine gf_X6_111 (v := σ 1 6) C hW (by decide) rfl rfl dX6_readNumber_41 ?_
          refine lv_istore_n (lv' := [(3, .int (σ 1 6)), (0, .ref (gAd G 1)), (1, .int a0), (2, .int a1)]) hx hb dX6_readNumber_44 rfl hl (by decide) rfl (fun ls hl => ?_)
          refine lv_aload_n hx hb dX6_readNumber_45 rfl (lv_at hl 1 rfl) ?_
          refine g_callvV (σ' := kAdvS σ t) (rest := []) (As := []) C hW kv_X6_42 1 (by decide) (gL_6 rfl) rfl (k_nextToken l G σ τ t hp) ⟨Nat.le_of_ble_eq_true rfl, Nat.le_of_ble_eq_true rfl⟩ ⟨Nat.le_refl _, Nat.le_refl _⟩ rfl hl.1 rfl (Nat.le_of_ble_eq_true rfl) dX6_readNumber_46 (fun H locs hW => ?_)
          refine lv_iload_n hx hb dX6_readNumber_49 rfl (lv_at hl 0 rfl) ?_
          exact g_iret C hr hlk hW dX6_readNumber_50 (by rw [kNumR, if_pos (by simpa using c_1), if_pos (by simp [kNumOk, c_2, c_3, c_4])]) (by rw [kNumS, if_pos (by simpa using c_1), if_pos (by simp [kNumOk, c_2, c_3, c_4])]) (rfl)
        · skip
          refine lv_aload_n hx hb dX6_readNumber_34 rfl (lv_at hl 0 rfl) ?_
          refine g_callvV (σ' := kRefS σ) (rest := []) (As := []) C hW kv_X6_71 1 (by decide) (gL_6 rfl) rfl (k_refuse l G σ τ) ⟨Nat.le_of_ble_eq_true rfl, Nat.le_of_ble_eq_true rfl⟩ ⟨Nat.le_refl _, Nat.le_refl _⟩ rfl hl.1 rfl (Nat.le_of_ble_eq_true rfl) dX6_readNumber_35 (fun H locs hW => ?_)
          refine lv_iload_n hx hb dX6_readNumber_38 rfl (lv_at hl 1 rfl) ?_
          exact g_iret C hr hlk hW dX6_readNumber_39 (by rw [kNumR, if_pos (by simpa using c_1), if_neg (by simp [kNumOk, c_2, c_3, c_4])]) (by rw [kNumS, if_pos (by simpa using c_1), if_neg (by simp [kNumOk, c_2, c_3, c_4])]) (rfl)
  · skip
    replace c_1 : (!decide (σ 1 3 = -9)) = true := bI_ne0.mp c_1
    refine lv_iload_n hx hb dX6_readNumber_7 rfl (lv_at hl 1 rfl) ?_
    exact g_iret C hr hlk hW dX6_readNumber_8 (by rw [kNumR, if_neg (by simpa using c_1)]) (by rw [kNumS, if_neg (by simpa using c_1)]) (rfl)
set_option maxHeartbeats 4000000 in
set_option maxRecDepth 100000 in
theorem k_readPlaces (l : Launch) (G : gG) (σ : gSt) (τ : Nat → Int64) (b : Bool) (t : Nat) (hp : kOk σ t) : gV l yX6_readPlaces cX6_readPlaces 2 (none : Option Jvm.ClassFile.FieldType) 3 65 G [.ref (gAd G 1), .int (bI b)] σ τ (kPlacesS σ t b) τ := by
  refine gMet_of (by decide) (Nat.le_of_ble_eq_true rfl) ?_
  intro p e s m args below meth c C hr hlk ls hl hW
  have hx := C.1
  have hb := C.2.1
  have hl : lv_has ls 2 [(0, .ref (gAd G 1)), (1, .int (bI b))] := hl
  refine lv_aload_n hx hb dX6_readPlaces_0 rfl (lv_at hl 0 rfl) ?_
  refine lv_iload_n hx hb dX6_readPlaces_1 rfl (lv_at hl 1 rfl) ?_
  refine g_callvV (σ' := kWordS σ t b) (rest := []) (As := [.int (bI b)]) C hW kv_X6_74 1 (by decide) (gL_6 rfl) rfl (k_readWord l G σ τ b t hp) ⟨Nat.le_of_ble_eq_true rfl, Nat.le_of_ble_eq_true rfl⟩ ⟨Nat.le_refl _, Nat.le_refl _⟩ rfl hl.1 rfl (Nat.le_of_ble_eq_true rfl) dX6_readPlaces_2 (fun H locs hW => ?_)
  refine lv_aload_n hx hb dX6_readPlaces_5 rfl (lv_at hl 0 rfl) ?_
  refine gf_X6_18 C hW (by decide) rfl dX6_readPlaces_6 ?_
  refine lv_aload_n hx hb dX6_readPlaces_9 rfl (lv_at hl 0 rfl) ?_
  refine lv_iconst (v := 2) hx hb dX6_readPlaces_10 (by decide) ?_
  refine lv_bipush (v := 6) hx hb dX6_readPlaces_11 (by decide) ?_
  refine g_callvI (r := kNumR (kWordS σ t b) 2 6) (σ' := kNumS (kWordS σ t b) t 2 6) (rest := [.ref (gAd G 3)]) (As := [.int 2, .int 6]) C hW kv_X6_77 1 (by decide) (gL_6 rfl) rfl (k_readNumber l G (kWordS σ t b) τ 2 6 t (kOk_word hp)) ⟨Nat.le_of_ble_eq_true rfl, Nat.le_of_ble_eq_true rfl⟩ ⟨Nat.le_refl _, Nat.le_refl _⟩ rfl hl.1 rfl (Nat.le_of_ble_eq_true rfl) dX6_readPlaces_13 (fun H locs hW => ?_)
  refine gp_X6_81 C hW (by decide) rfl dX6_readPlaces_16 (fun H locs hW => ?_)
  exact g_vret C hr hlk hW dX6_readPlaces_19 (rfl) (rfl)
set_option maxHeartbeats 4000000 in
set_option maxRecDepth 100000 in
theorem k_readPerson (l : Launch) (G : gG) (σ : gSt) (τ : Nat → Int64) (t : Nat) (hp : kOk σ t) (hsa : saOk σ) (hd : dInv σ) : gV l yX6_readPerson cX6_readPerson 2 (none : Option Jvm.ClassFile.FieldType) 3 65 G [.ref (gAd G 1)] σ τ (kPersonS σ t) τ := by
  refine gMet_of (by decide) (Nat.le_of_ble_eq_true rfl) ?_
  intro p e s m args below meth c C hr hlk ls hl hW
  have hx := C.1
  have hb := C.2.1
  have hl : lv_has ls 2 [(0, .ref (gAd G 1))] := hl
  refine lv_aload_n hx hb dX6_readPerson_0 rfl (lv_at hl 0 rfl) ?_
  have K17 : ∀ (z : Bool), z = (!decide (5 ≤ σ 3 1)) → ∀ (H : Heap) (locs : List Loc) (ls : Array Slot), gW G s σ τ H locs → lv_has ls 2 [(0, .ref (gAd G 1))] → W p l e (gRm 3 65) s m args below meth c H locs 0 0 (MQ below (gQv G (kPersonS σ t) τ) args s 0 0 (gA G)) (F0 m 17 ls [.int (bI z), .ref (gAd G 1)]) := by
    intro z hz H locs ls hW hl
    subst hz
    refine g_callvV (σ' := kWordS σ t (!decide (5 ≤ σ 3 1))) (rest := []) (As := [.int (bI (!decide (5 ≤ σ 3 1)))]) C hW kv_X6_74 1 (by decide) (gL_6 rfl) rfl (k_readWord l G σ τ (!decide (5 ≤ σ 3 1)) t hp) ⟨Nat.le_of_ble_eq_true rfl, Nat.le_of_ble_eq_true rfl⟩ ⟨Nat.le_refl _, Nat.le_refl _⟩ rfl hl.1 rfl (Nat.le_of_ble_eq_true rfl) dX6_readPerson_17 (fun H locs hW => ?_)
    refine lv_aload_n hx hb dX6_readPerson_20 rfl (lv_at hl 0 rfl) ?_
    refine lv_iconst (v := 0) hx hb dX6_readPerson_21 (by decide) ?_
    refine lv_aload_n hx hb dX6_readPerson_22 rfl (lv_at hl 0 rfl) ?_
    refine gf_X6_18 C hW (by decide) rfl dX6_readPerson_23 ?_
    refine gf_X6_81 (v := σ 3 0) C hW (by decide) rfl (congrFun (kWordS_ne (by decide)) 0) dX6_readPerson_26 ?_
    refine lv_iconst (v := 1) hx hb dX6_readPerson_29 (by decide) ?_
    refine lv_isub hx hb dX6_readPerson_30 ?_
    refine g_callvI (r := kNumR (kP1 σ t) 0 (σ 3 0 - 1)) (σ' := kP2 σ t) (rest := []) (As := [.int 0, .int ((σ 3 0) - 1)]) C hW kv_X6_77 1 (by decide) (gL_6 rfl) rfl (k_readNumber l G (kP1 σ t) τ 0 (σ 3 0 - 1) t (kOk_word hp)) ⟨Nat.le_of_ble_eq_true rfl, Nat.le_of_ble_eq_true rfl⟩ ⟨Nat.le_refl _, Nat.le_refl _⟩ rfl hl.1 rfl (Nat.le_of_ble_eq_true rfl) dX6_readPerson_31 (fun H locs hW => ?_)
    refine lv_istore_n (lv' := [(1, .int (kNumR (kP1 σ t) 0 (σ 3 0 - 1))), (0, .ref (gAd G 1))]) hx hb dX6_readPerson_34 rfl hl (by decide) rfl (fun ls hl => ?_)
    refine lv_aload_n hx hb dX6_readPerson_35 rfl (lv_at hl 1 rfl) ?_
    refine g_callvI (r := bI (!decide ((kP2 σ t) 1 3 = -9))) (σ' := kP2 σ t) (rest := []) (As := []) C hW kv_X6_48 1 (by decide) (gL_6 rfl) rfl (k_hasFault l G (kP2 σ t) τ) ⟨Nat.le_of_ble_eq_true rfl, Nat.le_of_ble_eq_true rfl⟩ ⟨Nat.le_refl _, Nat.le_refl _⟩ rfl hl.1 rfl (Nat.le_of_ble_eq_true rfl) dX6_readPerson_36 (fun H locs hW => ?_)
    refine lv_if_ne (tgt := 71) hx hb dX6_readPerson_39 (by decide) (fun c_1 => ?_) (fun c_1 => ?_)
    · skip
      replace c_1 : (!decide ((kP2 σ t) 1 3 = -9)) = true := bI_ne0.mp c_1
      exact g_vret C hr hlk hW dX6_readPerson_71 (by rw [kPersonS, if_neg (by simpa using c_1)]) (rfl)
    · skip
      replace c_1 : (!decide ((kP2 σ t) 1 3 = -9)) = false := bI_eq0.mp c_1
      have hf : kP2 σ t 1 3 = -9 := by simpa using c_1
      have hr_ := p_room hp hsa hd hf
      have h50 := hr_.1
      refine lv_aload_n hx hb dX6_readPerson_42 rfl (lv_at hl 1 rfl) ?_
      refine gf_X6_18 C hW (by decide) rfl dX6_readPerson_43 ?_
      refine gf_X6_87 C hW (by decide) rfl dX6_readPerson_46 ?_
      refine lv_aload_n hx hb dX6_readPerson_49 rfl (lv_at hl 1 rfl) ?_
      refine gf_X6_18 C hW (by decide) rfl dX6_readPerson_50 ?_
      refine gf_X6_84 (v := σ 3 1) C hW (by decide) rfl (congrFun p2_3 1) dX6_readPerson_53 ?_
      refine lv_iload_n hx hb dX6_readPerson_56 rfl (lv_at hl 0 rfl) ?_
      refine g_ast (d1 σ) C hW (by decide) rfl hr_.2 (show (d1 σ) < 5 by omega) (by decide) dX6_readPerson_57 (fun H locs hW => ?_)
      refine lv_aload_n hx hb dX6_readPerson_58 rfl (lv_at hl 1 rfl) ?_
      refine gf_X6_18 C hW (by decide) rfl dX6_readPerson_59 ?_
      refine lv_dup hx hb dX6_readPerson_62 rfl ?_
      refine gf_X6_84 (v := σ 3 1) C hW (by decide) rfl (by rw [gu_ne (by decide)]; exact congrFun p2_3 1) dX6_readPerson_63 ?_
      refine lv_iconst (v := 1) hx hb dX6_readPerson_66 (by decide) ?_
      refine lv_iadd hx hb dX6_readPerson_67 ?_
      refine gp_X6_84 C hW (by decide) rfl dX6_readPerson_68 (fun H locs hW => ?_)
      exact g_vret C hr hlk hW dX6_readPerson_71 (by rw [kPersonS, if_pos hf]) (rfl)
  refine lv_aload_n hx hb dX6_readPerson_1 rfl (lv_at hl 0 rfl) ?_
  refine gf_X6_18 C hW (by decide) rfl dX6_readPerson_2 ?_
  refine gf_X6_84 (v := σ 3 1) C hW (by decide) rfl rfl dX6_readPerson_5 ?_
  refine lv_iconst (v := 5) hx hb dX6_readPerson_8 (by decide) ?_
  refine lv_icmp_ge (tgt := 16) hx hb dX6_readPerson_9 (by decide) (fun c_2 => ?_) (fun c_2 => ?_)
  · skip
    refine lv_iconst (v := 0) hx hb dX6_readPerson_16 (by decide) ?_
    exact K17 false (by simp [c_2]) _ _ _ hW (lv_sub hl [0] rfl)
  · skip
    refine lv_iconst (v := 1) hx hb dX6_readPerson_12 (by decide) ?_
    refine lv_goto (tgt := 17) hx hb dX6_readPerson_13 (by decide) ?_
    exact K17 true (by simp [c_2]) _ _ _ hW (lv_sub hl [0] rfl)
set_option maxHeartbeats 4000000 in
set_option maxRecDepth 100000 in
theorem k_readDuty (l : Launch) (G : gG) (σ : gSt) (τ : Nat → Int64) (t : Nat) (hp : kOk σ t) (hsa : saOk σ) (hd : dInv σ) : gV l yX6_readDuty cX6_readDuty 5 (none : Option Jvm.ClassFile.FieldType) 3 65 G [.ref (gAd G 1)] σ τ (kDutyS σ t) τ := by
  refine gMet_of (by decide) (Nat.le_of_ble_eq_true rfl) ?_
  intro p e s m args below meth c C hr hlk ls hl hW
  have hx := C.1
  have hb := C.2.1
  have hl : lv_has ls 5 [(0, .ref (gAd G 1))] := hl
  refine lv_aload_n hx hb dX6_readDuty_0 rfl (lv_at hl 0 rfl) ?_
  have K18 : ∀ (z : Bool), z = (!decide (8 ≤ σ 3 2)) → ∀ (H : Heap) (locs : List Loc) (ls : Array Slot), gW G s σ τ H locs → lv_has ls 5 [(0, .ref (gAd G 1))] → W p l e (gRm 3 65) s m args below meth c H locs 0 0 (MQ below (gQv G (kDutyS σ t) τ) args s 0 0 (gA G)) (F0 m 18 ls [.int (bI z), .ref (gAd G 1)]) := by
    intro z hz H locs ls hW hl
    subst hz
    refine g_callvV (σ' := kWordS σ t (!decide (8 ≤ σ 3 2))) (rest := []) (As := [.int (bI (!decide (8 ≤ σ 3 2)))]) C hW kv_X6_74 1 (by decide) (gL_6 rfl) rfl (k_readWord l G σ τ (!decide (8 ≤ σ 3 2)) t hp) ⟨Nat.le_of_ble_eq_true rfl, Nat.le_of_ble_eq_true rfl⟩ ⟨Nat.le_refl _, Nat.le_refl _⟩ rfl hl.1 rfl (Nat.le_of_ble_eq_true rfl) dX6_readDuty_18 (fun H locs hW => ?_)
    refine lv_aload_n hx hb dX6_readDuty_21 rfl (lv_at hl 0 rfl) ?_
    refine lv_iconst (v := 0) hx hb dX6_readDuty_22 (by decide) ?_
    refine lv_aload_n hx hb dX6_readDuty_23 rfl (lv_at hl 0 rfl) ?_
    refine gf_X6_18 C hW (by decide) rfl dX6_readDuty_24 ?_
    refine gf_X6_84 (v := σ 3 1) C hW (by decide) rfl (congrFun (kWordS_ne (by decide)) 1) dX6_readDuty_27 ?_
    refine lv_iconst (v := 1) hx hb dX6_readDuty_30 (by decide) ?_
    refine lv_isub hx hb dX6_readDuty_31 ?_
    refine g_callvI (r := kNumR (kD1 σ t) 0 ((σ 3 1) - 1)) (σ' := kD2 σ t) (rest := []) (As := [.int 0, .int ((σ 3 1) - 1)]) C hW kv_X6_77 1 (by decide) (gL_6 rfl) rfl (k_readNumber l G (kD1 σ t) τ 0 ((σ 3 1) - 1) t (kOk_word hp)) ⟨Nat.le_of_ble_eq_true rfl, Nat.le_of_ble_eq_true rfl⟩ ⟨Nat.le_refl _, Nat.le_refl _⟩ rfl hl.1 rfl (Nat.le_of_ble_eq_true rfl) dX6_readDuty_32 (fun H locs hW => ?_)
    refine lv_istore_n (lv' := [(1, .int (kNumR (kD1 σ t) 0 ((σ 3 1) - 1))), (0, .ref (gAd G 1))]) hx hb dX6_readDuty_35 rfl hl (by decide) rfl (fun ls hl => ?_)
    refine lv_aload_n hx hb dX6_readDuty_36 rfl (lv_at hl 1 rfl) ?_
    refine lv_iconst (v := 0) hx hb dX6_readDuty_37 (by decide) ?_
    refine lv_aload_n hx hb dX6_readDuty_38 rfl (lv_at hl 1 rfl) ?_
    refine gf_X6_18 C hW (by decide) rfl dX6_readDuty_39 ?_
    refine gf_X6_81 (v := σ 3 0) C hW (by decide) rfl (by rw [kD2, kNumS_ne (by decide), kD1, kWordS_ne (by decide)]) dX6_readDuty_42 ?_
    refine lv_iconst (v := 1) hx hb dX6_readDuty_45 (by decide) ?_
    refine lv_isub hx hb dX6_readDuty_46 ?_
    refine g_callvI (r := kNumR (kD2 σ t) 0 ((σ 3 0) - 1)) (σ' := kD3 σ t) (rest := []) (As := [.int 0, .int ((σ 3 0) - 1)]) C hW kv_X6_77 1 (by decide) (gL_6 rfl) rfl (k_readNumber l G (kD2 σ t) τ 0 ((σ 3 0) - 1) t (kOk_num (kOk_word hp))) ⟨Nat.le_of_ble_eq_true rfl, Nat.le_of_ble_eq_true rfl⟩ ⟨Nat.le_refl _, Nat.le_refl _⟩ rfl hl.1 rfl (Nat.le_of_ble_eq_true rfl) dX6_readDuty_47 (fun H locs hW => ?_)
    refine lv_istore_n (lv' := [(2, .int (kNumR (kD2 σ t) 0 ((σ 3 0) - 1))), (1, .int (kNumR (kD1 σ t) 0 ((σ 3 1) - 1))), (0, .ref (gAd G 1))]) hx hb dX6_readDuty_50 rfl hl (by decide) rfl (fun ls hl => ?_)
    refine lv_aload_n hx hb dX6_readDuty_51 rfl (lv_at hl 2 rfl) ?_
    refine lv_iconst (v := 0) hx hb dX6_readDuty_52 (by decide) ?_
    refine lv_sipush (v := 239) hx hb dX6_readDuty_53 (by decide) ?_
    refine g_callvI (r := kNumR (kD3 σ t) 0 239) (σ' := kD4 σ t) (rest := []) (As := [.int 0, .int 239]) C hW kv_X6_77 1 (by decide) (gL_6 rfl) rfl (k_readNumber l G (kD3 σ t) τ 0 239 t (kOk_num (kOk_num (kOk_word hp)))) ⟨Nat.le_of_ble_eq_true rfl, Nat.le_of_ble_eq_true rfl⟩ ⟨Nat.le_refl _, Nat.le_refl _⟩ rfl hl.1 rfl (Nat.le_of_ble_eq_true rfl) dX6_readDuty_56 (fun H locs hW => ?_)
    refine lv_istore_n (lv' := [(3, .int (kNumR (kD3 σ t) 0 239)), (2, .int (kNumR (kD2 σ t) 0 ((σ 3 0) - 1))), (1, .int (kNumR (kD1 σ t) 0 ((σ 3 1) - 1))), (0, .ref (gAd G 1))]) hx hb dX6_readDuty_59 rfl hl (by decide) rfl (fun ls hl => ?_)
    refine lv_aload_n hx hb dX6_readDuty_60 rfl (lv_at hl 3 rfl) ?_
    refine lv_iconst (v := 1) hx hb dX6_readDuty_61 (by decide) ?_
    refine lv_bipush (v := 60) hx hb dX6_readDuty_62 (by decide) ?_
    refine g_callvI (r := kNumR (kD4 σ t) 1 60) (σ' := kD5 σ t) (rest := []) (As := [.int 1, .int 60]) C hW kv_X6_77 1 (by decide) (gL_6 rfl) rfl (k_readNumber l G (kD4 σ t) τ 1 60 t (kOk_num (kOk_num (kOk_num (kOk_word hp))))) ⟨Nat.le_of_ble_eq_true rfl, Nat.le_of_ble_eq_true rfl⟩ ⟨Nat.le_refl _, Nat.le_refl _⟩ rfl hl.1 rfl (Nat.le_of_ble_eq_true rfl) dX6_readDuty_64 (fun H locs hW => ?_)
    refine lv_istore (lv' := [(4, .int (kNumR (kD4 σ t) 1 60)), (3, .int (kNumR (kD3 σ t) 0 239)), (2, .int (kNumR (kD2 σ t) 0 ((σ 3 0) - 1))), (1, .int (kNumR (kD1 σ t) 0 ((σ 3 1) - 1))), (0, .ref (gAd G 1))]) hx hb dX6_readDuty_67 hl (by decide) rfl (fun ls hl => ?_)
    refine lv_aload_n hx hb dX6_readDuty_69 rfl (lv_at hl 4 rfl) ?_
    refine g_callvI (r := bI (!decide ((kD5 σ t) 1 3 = -9))) (σ' := kD5 σ t) (rest := []) (As := []) C hW kv_X6_48 1 (by decide) (gL_6 rfl) rfl (k_hasFault l G (kD5 σ t) τ) ⟨Nat.le_of_ble_eq_true rfl, Nat.le_of_ble_eq_true rfl⟩ ⟨Nat.le_refl _, Nat.le_refl _⟩ rfl hl.1 rfl (Nat.le_of_ble_eq_true rfl) dX6_readDuty_70 (fun H locs hW => ?_)
    refine lv_if_ne (tgt := 154) hx hb dX6_readDuty_73 (by decide) (fun c_1 => ?_) (fun c_1 => ?_)
    · skip
      replace c_1 : (!decide ((kD5 σ t) 1 3 = -9)) = true := bI_ne0.mp c_1
      exact g_vret C hr hlk hW dX6_readDuty_154 (by rw [kDutyS, if_neg (by simpa using c_1)]) (rfl)
    · skip
      replace c_1 : (!decide ((kD5 σ t) 1 3 = -9)) = false := bI_eq0.mp c_1
      have hf : kD5 σ t 1 3 = -9 := by simpa using c_1
      have hr_ := d_room hp hsa hd hf
      have h80 := hr_.1
      refine lv_aload_n hx hb dX6_readDuty_76 rfl (lv_at hl 4 rfl) ?_
      refine gf_X6_18 C hW (by decide) rfl dX6_readDuty_77 ?_
      refine gf_X6_93 C hW (by decide) rfl dX6_readDuty_80 ?_
      refine lv_aload_n hx hb dX6_readDuty_83 rfl (lv_at hl 4 rfl) ?_
      refine gf_X6_18 C hW (by decide) rfl dX6_readDuty_84 ?_
      refine gf_X6_90 (v := σ 3 2) C hW (by decide) rfl (by exact congrFun d5_3 2) dX6_readDuty_87 ?_
      refine lv_iload_n hx hb dX6_readDuty_90 rfl (lv_at hl 3 rfl) ?_
      refine g_ast (d2 σ) C hW (by decide) rfl hr_.2 (show (d2 σ) < 8 by omega) (by decide) dX6_readDuty_91 (fun H locs hW => ?_)
      refine lv_aload_n hx hb dX6_readDuty_92 rfl (lv_at hl 4 rfl) ?_
      refine gf_X6_18 C hW (by decide) rfl dX6_readDuty_93 ?_
      refine gf_X6_96 C hW (by decide) rfl dX6_readDuty_96 ?_
      refine lv_aload_n hx hb dX6_readDuty_99 rfl (lv_at hl 4 rfl) ?_
      refine gf_X6_18 C hW (by decide) rfl dX6_readDuty_100 ?_
      refine gf_X6_90 (v := σ 3 2) C hW (by decide) rfl (by rw [gu_ne (by decide)]; exact congrFun d5_3 2) dX6_readDuty_103 ?_
      refine lv_iload_n hx hb dX6_readDuty_106 rfl (lv_at hl 2 rfl) ?_
      refine g_ast (d2 σ) C hW (by decide) rfl hr_.2 (show (d2 σ) < 8 by omega) (by decide) dX6_readDuty_107 (fun H locs hW => ?_)
      refine lv_aload_n hx hb dX6_readDuty_108 rfl (lv_at hl 4 rfl) ?_
      refine gf_X6_18 C hW (by decide) rfl dX6_readDuty_109 ?_
      refine gf_X6_99 C hW (by decide) rfl dX6_readDuty_112 ?_
      refine lv_aload_n hx hb dX6_readDuty_115 rfl (lv_at hl 4 rfl) ?_
      refine gf_X6_18 C hW (by decide) rfl dX6_readDuty_116 ?_
      refine gf_X6_90 (v := σ 3 2) C hW (by decide) rfl (by rw [gu_ne (by decide), gu_ne (by decide)]; exact congrFun d5_3 2) dX6_readDuty_119 ?_
      refine lv_iload_n hx hb dX6_readDuty_122 rfl (lv_at hl 1 rfl) ?_
      refine g_ast (d2 σ) C hW (by decide) rfl hr_.2 (show (d2 σ) < 8 by omega) (by decide) dX6_readDuty_123 (fun H locs hW => ?_)
      refine lv_aload_n hx hb dX6_readDuty_124 rfl (lv_at hl 4 rfl) ?_
      refine gf_X6_18 C hW (by decide) rfl dX6_readDuty_125 ?_
      refine gf_X6_102 C hW (by decide) rfl dX6_readDuty_128 ?_
      refine lv_aload_n hx hb dX6_readDuty_131 rfl (lv_at hl 4 rfl) ?_
      refine gf_X6_18 C hW (by decide) rfl dX6_readDuty_132 ?_
      refine gf_X6_90 (v := σ 3 2) C hW (by decide) rfl (by rw [gu_ne (by decide), gu_ne (by decide), gu_ne (by decide)]; exact congrFun d5_3 2) dX6_readDuty_135 ?_
      refine lv_iload hx hb dX6_readDuty_138 (lv_at hl 0 rfl) ?_
      refine g_ast (d2 σ) C hW (by decide) rfl hr_.2 (show (d2 σ) < 8 by omega) (by decide) dX6_readDuty_140 (fun H locs hW => ?_)
      refine lv_aload_n hx hb dX6_readDuty_141 rfl (lv_at hl 4 rfl) ?_
      refine gf_X6_18 C hW (by decide) rfl dX6_readDuty_142 ?_
      refine lv_dup hx hb dX6_readDuty_145 rfl ?_
      refine gf_X6_90 (v := σ 3 2) C hW (by decide) rfl (by rw [gu_ne (by decide), gu_ne (by decide), gu_ne (by decide), gu_ne (by decide)]; exact congrFun d5_3 2) dX6_readDuty_146 ?_
      refine lv_iconst (v := 1) hx hb dX6_readDuty_149 (by decide) ?_
      refine lv_iadd hx hb dX6_readDuty_150 ?_
      refine gp_X6_90 C hW (by decide) rfl dX6_readDuty_151 (fun H locs hW => ?_)
      exact g_vret C hr hlk hW dX6_readDuty_154 (by rw [kDutyS, if_pos hf]) (rfl)
  refine lv_aload_n hx hb dX6_readDuty_1 rfl (lv_at hl 0 rfl) ?_
  refine gf_X6_18 C hW (by decide) rfl dX6_readDuty_2 ?_
  refine gf_X6_90 (v := σ 3 2) C hW (by decide) rfl rfl dX6_readDuty_5 ?_
  refine lv_bipush (v := 8) hx hb dX6_readDuty_8 (by decide) ?_
  refine lv_icmp_ge (tgt := 17) hx hb dX6_readDuty_10 (by decide) (fun c_2 => ?_) (fun c_2 => ?_)
  · skip
    refine lv_iconst (v := 0) hx hb dX6_readDuty_17 (by decide) ?_
    exact K18 false (by simp [c_2]) _ _ _ hW (lv_sub hl [0] rfl)
  · skip
    refine lv_iconst (v := 1) hx hb dX6_readDuty_13 (by decide) ?_
    refine lv_goto (tgt := 18) hx hb dX6_readDuty_14 (by decide) ?_
    exact K18 true (by simp [c_2]) _ _ _ hW (lv_sub hl [0] rfl)
set_option maxHeartbeats 4000000 in
set_option maxRecDepth 100000 in
theorem k_readWalk (l : Launch) (G : gG) (σ : gSt) (τ : Nat → Int64) (t : Nat) (hp : kOk σ t) : gV l yX6_readWalk cX6_readWalk 1 (none : Option Jvm.ClassFile.FieldType) 3 65 G [.ref (gAd G 1)] σ τ (kWalkS σ t) τ := by
  refine gMet_of (by decide) (Nat.le_of_ble_eq_true rfl) ?_
  intro p e s m args below meth c C hr hlk ls hl hW
  have hx := C.1
  have hb := C.2.1
  have hl : lv_has ls 1 [(0, .ref (gAd G 1))] := hl
  refine lv_aload_n hx hb dX6_readWalk_0 rfl (lv_at hl 0 rfl) ?_
  have K13 : ∀ (z : Bool), z = (decide (σ 1 8 = 0)) → ∀ (H : Heap) (locs : List Loc) (ls : Array Slot), gW G s σ τ H locs → lv_has ls 1 [(0, .ref (gAd G 1))] → W p l e (gRm 3 65) s m args below meth c H locs 0 0 (MQ below (gQv G (kWalkS σ t) τ) args s 0 0 (gA G)) (F0 m 13 ls [.int (bI z), .ref (gAd G 1)]) := by
    intro z hz H locs ls hW hl
    subst hz
    refine g_callvV (σ' := kWordS σ t (decide (σ 1 8 = 0))) (rest := []) (As := [.int (bI (decide (σ 1 8 = 0)))]) C hW kv_X6_74 1 (by decide) (gL_6 rfl) rfl (k_readWord l G σ τ (decide (σ 1 8 = 0)) t hp) ⟨Nat.le_of_ble_eq_true rfl, Nat.le_of_ble_eq_true rfl⟩ ⟨Nat.le_refl _, Nat.le_refl _⟩ rfl hl.1 rfl (Nat.le_of_ble_eq_true rfl) dX6_readWalk_13 (fun H locs hW => ?_)
    refine lv_aload_n hx hb dX6_readWalk_16 rfl (lv_at hl 0 rfl) ?_
    refine lv_iconst (v := 1) hx hb dX6_readWalk_17 (by decide) ?_
    refine gp_X6_32 (b := true) C hW (by decide) rfl dX6_readWalk_18 (fun H locs hW => ?_)
    refine lv_aload_n hx hb dX6_readWalk_21 rfl (lv_at hl 0 rfl) ?_
    refine gf_X6_18 C hW (by decide) rfl dX6_readWalk_22 ?_
    refine lv_aload_n hx hb dX6_readWalk_25 rfl (lv_at hl 0 rfl) ?_
    refine lv_iconst (v := 1) hx hb dX6_readWalk_26 (by decide) ?_
    refine lv_bipush (v := 9) hx hb dX6_readWalk_27 (by decide) ?_
    refine g_callvI (r := kNumR (gu (kWordS σ t (decide (σ 1 8 = 0))) 1 8 (bI true)) 1 9) (σ' := kNumS (gu (kWordS σ t (decide (σ 1 8 = 0))) 1 8 (bI true)) t 1 9) (rest := [.ref (gAd G 3)]) (As := [.int 1, .int 9]) C hW kv_X6_77 1 (by decide) (gL_6 rfl) rfl (k_readNumber l G (gu (kWordS σ t (decide (σ 1 8 = 0))) 1 8 (bI true)) τ 1 9 t (kOk_gu (by decide) (kOk_word hp))) ⟨Nat.le_of_ble_eq_true rfl, Nat.le_of_ble_eq_true rfl⟩ ⟨Nat.le_refl _, Nat.le_refl _⟩ rfl hl.1 rfl (Nat.le_of_ble_eq_true rfl) dX6_readWalk_29 (fun H locs hW => ?_)
    refine gp_X6_105 C hW (by decide) rfl dX6_readWalk_32 (fun H locs hW => ?_)
    exact g_vret C hr hlk hW dX6_readWalk_35 (rfl) (rfl)
  refine lv_aload_n hx hb dX6_readWalk_1 rfl (lv_at hl 0 rfl) ?_
  refine gf_X6_32 (v := σ 1 8) C hW (by decide) rfl rfl dX6_readWalk_2 ?_
  refine lv_if_ne (tgt := 12) hx hb dX6_readWalk_5 (by decide) (fun c_1 => ?_) (fun c_1 => ?_)
  · skip
    refine lv_iconst (v := 0) hx hb dX6_readWalk_12 (by decide) ?_
    exact K13 false (by simp [c_1]) _ _ _ hW (lv_sub hl [0] rfl)
  · skip
    refine lv_iconst (v := 1) hx hb dX6_readWalk_8 (by decide) ?_
    refine lv_goto (tgt := 13) hx hb dX6_readWalk_9 (by decide) ?_
    exact K13 true (by simp [c_1]) _ _ _ hW (lv_sub hl [0] rfl)
set_option maxHeartbeats 4000000 in
set_option maxRecDepth 100000 in
theorem k_readFree (l : Launch) (G : gG) (σ : gSt) (τ : Nat → Int64) (t : Nat) (hp : kOk σ t) : gV l yX6_readFree cX6_readFree 1 (none : Option Jvm.ClassFile.FieldType) 3 65 G [.ref (gAd G 1)] σ τ (kFreeS σ t) τ := by
  refine gMet_of (by decide) (Nat.le_of_ble_eq_true rfl) ?_
  intro p e s m args below meth c C hr hlk ls hl hW
  have hx := C.1
  have hb := C.2.1
  have hl : lv_has ls 1 [(0, .ref (gAd G 1))] := hl
  refine lv_aload_n hx hb dX6_readFree_0 rfl (lv_at hl 0 rfl) ?_
  have K13 : ∀ (z : Bool), z = (decide (σ 1 9 = 0)) → ∀ (H : Heap) (locs : List Loc) (ls : Array Slot), gW G s σ τ H locs → lv_has ls 1 [(0, .ref (gAd G 1))] → W p l e (gRm 3 65) s m args below meth c H locs 0 0 (MQ below (gQv G (kFreeS σ t) τ) args s 0 0 (gA G)) (F0 m 13 ls [.int (bI z), .ref (gAd G 1)]) := by
    intro z hz H locs ls hW hl
    subst hz
    refine g_callvV (σ' := kWordS σ t (decide (σ 1 9 = 0))) (rest := []) (As := [.int (bI (decide (σ 1 9 = 0)))]) C hW kv_X6_74 1 (by decide) (gL_6 rfl) rfl (k_readWord l G σ τ (decide (σ 1 9 = 0)) t hp) ⟨Nat.le_of_ble_eq_true rfl, Nat.le_of_ble_eq_true rfl⟩ ⟨Nat.le_refl _, Nat.le_refl _⟩ rfl hl.1 rfl (Nat.le_of_ble_eq_true rfl) dX6_readFree_13 (fun H locs hW => ?_)
    refine lv_aload_n hx hb dX6_readFree_16 rfl (lv_at hl 0 rfl) ?_
    refine lv_iconst (v := 1) hx hb dX6_readFree_17 (by decide) ?_
    refine gp_X6_36 (b := true) C hW (by decide) rfl dX6_readFree_18 (fun H locs hW => ?_)
    refine lv_aload_n hx hb dX6_readFree_21 rfl (lv_at hl 0 rfl) ?_
    refine gf_X6_18 C hW (by decide) rfl dX6_readFree_22 ?_
    refine lv_aload_n hx hb dX6_readFree_25 rfl (lv_at hl 0 rfl) ?_
    refine lv_iconst (v := 0) hx hb dX6_readFree_26 (by decide) ?_
    refine lv_bipush (v := 9) hx hb dX6_readFree_27 (by decide) ?_
    refine g_callvI (r := kNumR (gu (kWordS σ t (decide (σ 1 9 = 0))) 1 9 (bI true)) 0 9) (σ' := kNumS (gu (kWordS σ t (decide (σ 1 9 = 0))) 1 9 (bI true)) t 0 9) (rest := [.ref (gAd G 3)]) (As := [.int 0, .int 9]) C hW kv_X6_77 1 (by decide) (gL_6 rfl) rfl (k_readNumber l G (gu (kWordS σ t (decide (σ 1 9 = 0))) 1 9 (bI true)) τ 0 9 t (kOk_gu (by decide) (kOk_word hp))) ⟨Nat.le_of_ble_eq_true rfl, Nat.le_of_ble_eq_true rfl⟩ ⟨Nat.le_refl _, Nat.le_refl _⟩ rfl hl.1 rfl (Nat.le_of_ble_eq_true rfl) dX6_readFree_29 (fun H locs hW => ?_)
    refine gp_X6_108 C hW (by decide) rfl dX6_readFree_32 (fun H locs hW => ?_)
    exact g_vret C hr hlk hW dX6_readFree_35 (rfl) (rfl)
  refine lv_aload_n hx hb dX6_readFree_1 rfl (lv_at hl 0 rfl) ?_
  refine gf_X6_36 (v := σ 1 9) C hW (by decide) rfl rfl dX6_readFree_2 ?_
  refine lv_if_ne (tgt := 12) hx hb dX6_readFree_5 (by decide) (fun c_1 => ?_) (fun c_1 => ?_)
  · skip
    refine lv_iconst (v := 0) hx hb dX6_readFree_12 (by decide) ?_
    exact K13 false (by simp [c_1]) _ _ _ hW (lv_sub hl [0] rfl)
  · skip
    refine lv_iconst (v := 1) hx hb dX6_readFree_8 (by decide) ?_
    refine lv_goto (tgt := 13) hx hb dX6_readFree_9 (by decide) ?_
    exact K13 true (by simp [c_1]) _ _ _ hW (lv_sub hl [0] rfl)
set_option maxHeartbeats 4000000 in
set_option maxRecDepth 100000 in
theorem k_readItem (l : Launch) (G : gG) (σ : gSt) (τ : Nat → Int64) (b : Bool) (t : Nat) (hp : kOk σ t) (hsa : saOk σ) (hd : dInv σ) : gV l yX6_readItem cX6_readItem 2 (none : Option Jvm.ClassFile.FieldType) 4 89 G [.ref (gAd G 1), .int (bI b)] σ τ (kItemS σ t b) τ := by
  refine gMet_of (by decide) (Nat.le_of_ble_eq_true rfl) ?_
  intro p e s m args below meth c C hr hlk ls hl hW
  have hx := C.1
  have hb := C.2.1
  have hl : lv_has ls 2 [(0, .ref (gAd G 1)), (1, .int (bI b))] := hl
  have K96 : ∀ (H : Heap) (locs : List Loc) (ls : Array Slot), gW G s (kI1 σ t b) τ H locs → lv_has ls 2 [(0, .ref (gAd G 1)), (1, .int (bI b))] → W p l e (gRm 4 89) s m args below meth c H locs 0 0 (MQ below (gQv G (kItemS σ t b) τ) args s 0 0 (gA G)) (F0 m 96 ls []) := by
    intro  H locs ls hW hl
    refine lv_aload_n hx hb dX6_readItem_96 rfl (lv_at hl 0 rfl) ?_
    refine gf_X6_45 (v := (kI1 σ t b) 1 4) C hW (by decide) rfl rfl dX6_readItem_97 ?_
    refine lv_bipush (v := 59) hx hb dX6_readItem_100 (by decide) ?_
    refine lv_icmp_eq (tgt := 112) hx hb dX6_readItem_102 (by decide) (fun c_1 => ?_) (fun c_1 => ?_)
    · skip
      refine lv_aload_n hx hb dX6_readItem_112 rfl (lv_at hl 0 rfl) ?_
      refine g_callvV (σ' := kAdvS (kI1 σ t b) t) (rest := []) (As := []) C hW kv_X6_42 1 (by decide) (gL_6 rfl) rfl (k_nextToken l G (kI1 σ t b) τ t (kOk_i1 hp)) ⟨Nat.le_of_ble_eq_true rfl, Nat.le_of_ble_eq_true rfl⟩ ⟨Nat.le_refl _, Nat.le_refl _⟩ rfl hl.1 rfl (Nat.le_of_ble_eq_true rfl) dX6_readItem_113 (fun H locs hW => ?_)
      exact g_vret C hr hlk hW dX6_readItem_116 (by rw [kItemS, if_pos c_1]) (rfl)
    · skip
      refine lv_aload_n hx hb dX6_readItem_105 rfl (lv_at hl 0 rfl) ?_
      refine g_callvV (σ' := kRefS (kI1 σ t b)) (rest := []) (As := []) C hW kv_X6_71 1 (by decide) (gL_6 rfl) rfl (k_refuse l G (kI1 σ t b) τ) ⟨Nat.le_of_ble_eq_true rfl, Nat.le_of_ble_eq_true rfl⟩ ⟨Nat.le_refl _, Nat.le_refl _⟩ rfl hl.1 rfl (Nat.le_of_ble_eq_true rfl) dX6_readItem_106 (fun H locs hW => ?_)
      refine lv_goto (tgt := 116) hx hb dX6_readItem_109 (by decide) ?_
      exact g_vret C hr hlk hW dX6_readItem_116 (by rw [kItemS, if_neg c_1]) (rfl)
  refine lv_aload_n hx hb dX6_readItem_0 rfl (lv_at hl 0 rfl) ?_
  refine gf_X6_45 (v := σ 1 4) C hW (by decide) rfl rfl dX6_readItem_1 ?_
  by_cases c_2 : σ 1 4 = 100
  · skip
    refine lv_lookup (tgt := 71) (off := 67) hx hb dX6_readItem_4 (by decide) (by rw [c_2]; rfl) (by decide) ?_
    refine lv_aload_n hx hb dX6_readItem_71 rfl (lv_at hl 0 rfl) ?_
    refine g_callvV (σ' := kDutyS σ t) (rest := []) (As := []) C hW kv_X6_62 1 (by decide) (gL_6 rfl) rfl (k_readDuty l G σ τ t hp hsa hd) ⟨Nat.le_of_ble_eq_true rfl, Nat.le_of_ble_eq_true rfl⟩ ⟨Nat.le_refl _, Nat.le_refl _⟩ rfl hl.1 rfl (Nat.le_of_ble_eq_true rfl) dX6_readItem_72 (fun H locs hW => ?_)
    refine lv_goto (tgt := 96) hx hb dX6_readItem_75 (by decide) ?_
    exact K96   _ _ _ (by rw [kI1, if_pos c_2]; exact hW) (lv_sub hl [0, 1] rfl)
  by_cases c_3 : σ 1 4 = 102
  · skip
    refine lv_lookup (tgt := 85) (off := 81) hx hb dX6_readItem_4 (by decide) (by rw [c_3]; rfl) (by decide) ?_
    refine lv_aload_n hx hb dX6_readItem_85 rfl (lv_at hl 0 rfl) ?_
    refine g_callvV (σ' := kFreeS σ t) (rest := []) (As := []) C hW kv_X6_68 1 (by decide) (gL_6 rfl) rfl (k_readFree l G σ τ t hp) ⟨Nat.le_of_ble_eq_true rfl, Nat.le_of_ble_eq_true rfl⟩ ⟨Nat.le_refl _, Nat.le_refl _⟩ rfl hl.1 rfl (Nat.le_of_ble_eq_true rfl) dX6_readItem_86 (fun H locs hW => ?_)
    refine lv_goto (tgt := 96) hx hb dX6_readItem_89 (by decide) ?_
    exact K96   _ _ _ (by rw [kI1, if_neg c_2, if_pos c_3]; exact hW) (lv_sub hl [0, 1] rfl)
  by_cases c_4 : σ 1 4 = 103
  · skip
    refine lv_lookup (tgt := 78) (off := 74) hx hb dX6_readItem_4 (by decide) (by rw [c_4]; rfl) (by decide) ?_
    refine lv_aload_n hx hb dX6_readItem_78 rfl (lv_at hl 0 rfl) ?_
    refine g_callvV (σ' := kWalkS σ t) (rest := []) (As := []) C hW kv_X6_65 1 (by decide) (gL_6 rfl) rfl (k_readWalk l G σ τ t hp) ⟨Nat.le_of_ble_eq_true rfl, Nat.le_of_ble_eq_true rfl⟩ ⟨Nat.le_refl _, Nat.le_refl _⟩ rfl hl.1 rfl (Nat.le_of_ble_eq_true rfl) dX6_readItem_79 (fun H locs hW => ?_)
    refine lv_goto (tgt := 96) hx hb dX6_readItem_82 (by decide) ?_
    exact K96   _ _ _ (by rw [kI1, if_neg c_2, if_neg c_3, if_pos c_4]; exact hW) (lv_sub hl [0, 1] rfl)
  by_cases c_5 : σ 1 4 = 112
  · skip
    refine lv_lookup (tgt := 64) (off := 60) hx hb dX6_readItem_4 (by decide) (by rw [c_5]; rfl) (by decide) ?_
    refine lv_aload_n hx hb dX6_readItem_64 rfl (lv_at hl 0 rfl) ?_
    refine g_callvV (σ' := kPersonS σ t) (rest := []) (As := []) C hW kv_X6_59 1 (by decide) (gL_6 rfl) rfl (k_readPerson l G σ τ t hp hsa hd) ⟨Nat.le_of_ble_eq_true rfl, Nat.le_of_ble_eq_true rfl⟩ ⟨Nat.le_refl _, Nat.le_refl _⟩ rfl hl.1 rfl (Nat.le_of_ble_eq_true rfl) dX6_readItem_65 (fun H locs hW => ?_)
    refine lv_goto (tgt := 96) hx hb dX6_readItem_68 (by decide) ?_
    exact K96   _ _ _ (by rw [kI1, if_neg c_2, if_neg c_3, if_neg c_4, if_pos c_5]; exact hW) (lv_sub hl [0, 1] rfl)
  by_cases c_6 : σ 1 4 = 119
  · skip
    refine lv_lookup (tgt := 56) (off := 52) hx hb dX6_readItem_4 (by decide) (by rw [c_6]; rfl) (by decide) ?_
    refine lv_aload_n hx hb dX6_readItem_56 rfl (lv_at hl 0 rfl) ?_
    refine lv_iload_n hx hb dX6_readItem_57 rfl (lv_at hl 1 rfl) ?_
    refine g_callvV (σ' := kPlacesS σ t b) (rest := []) (As := [.int (bI b)]) C hW kv_X6_56 1 (by decide) (gL_6 rfl) rfl (k_readPlaces l G σ τ b t hp) ⟨Nat.le_of_ble_eq_true rfl, Nat.le_of_ble_eq_true rfl⟩ ⟨Nat.le_refl _, Nat.le_refl _⟩ rfl hl.1 rfl (Nat.le_of_ble_eq_true rfl) dX6_readItem_58 (fun H locs hW => ?_)
    refine lv_goto (tgt := 96) hx hb dX6_readItem_61 (by decide) ?_
    exact K96   _ _ _ (by rw [kI1, if_neg c_2, if_neg c_3, if_neg c_4, if_neg c_5, if_pos c_6]; exact hW) (lv_sub hl [0, 1] rfl)
  refine lv_lookup (tgt := 92) (off := 88) hx hb dX6_readItem_4 (by decide) (by show Op.lookupswitch.offset [(100, 67), (102, 81), (103, 74), (112, 60), (119, 52)] 88 _ = _; rw [lv_osw c_2 (a := 100) (by decide), lv_osw c_3 (a := 102) (by decide), lv_osw c_4 (a := 103) (by decide), lv_osw c_5 (a := 112) (by decide), lv_osw c_6 (a := 119) (by decide)]; rfl) (by decide) ?_
  refine lv_aload_n hx hb dX6_readItem_92 rfl (lv_at hl 0 rfl) ?_
  refine g_callvV (σ' := kRefS σ) (rest := []) (As := []) C hW kv_X6_71 1 (by decide) (gL_6 rfl) rfl (k_refuse l G σ τ) ⟨Nat.le_of_ble_eq_true rfl, Nat.le_of_ble_eq_true rfl⟩ ⟨Nat.le_refl _, Nat.le_refl _⟩ rfl hl.1 rfl (Nat.le_of_ble_eq_true rfl) dX6_readItem_93 (fun H locs hW => ?_)
  exact K96   _ _ _ (by rw [kI1, if_neg c_2, if_neg c_3, if_neg c_4, if_neg c_5, if_neg c_6]; exact hW) (lv_sub hl [0, 1] rfl)
set_option maxHeartbeats 4000000 in
set_option maxRecDepth 100000 in
theorem k_read (l : Launch) (G : gG) (σ : gSt) (τ : Nat → Int64) (t : Nat) (ht : σ 1 1 = nI t) (ht2 : t ≤ 200) : gI l yX6_read cX6_read 2 (some .int) 5 110 G [.ref (gAd G 1)] σ τ (nI (kRead σ t).2) ((kRead σ t).1) τ := by
  refine gMet_of (by decide) (Nat.le_of_ble_eq_true rfl) ?_
  intro p e s m args below meth c C hr hlk ls hl hW
  have hx := C.1
  have hb := C.2.1
  have hl : lv_has ls 2 [(0, .ref (gAd G 1))] := hl
  refine lv_aload_n hx hb dX6_read_0 rfl (lv_at hl 0 rfl) ?_
  refine gf_X6_18 C hW (by decide) rfl dX6_read_1 ?_
  refine g_callvV (σ' := kReset σ) (rest := []) (As := []) C hW kv_X6_29 3 (by decide) (gL_4 rfl) rfl (k_reset l G σ τ) ⟨Nat.le_of_ble_eq_true rfl, Nat.le_of_ble_eq_true rfl⟩ ⟨Nat.le_refl _, Nat.le_refl _⟩ rfl hl.1 rfl (Nat.le_of_ble_eq_true rfl) dX6_read_4 (fun H locs hW => ?_)
  refine lv_aload_n hx hb dX6_read_7 rfl (lv_at hl 0 rfl) ?_
  refine lv_iconst (v := 0) hx hb dX6_read_8 (by decide) ?_
  refine gp_X6_32 (b := false) C hW (by decide) rfl dX6_read_9 (fun H locs hW => ?_)
  refine lv_aload_n hx hb dX6_read_12 rfl (lv_at hl 0 rfl) ?_
  refine lv_iconst (v := 0) hx hb dX6_read_13 (by decide) ?_
  refine gp_X6_36 (b := false) C hW (by decide) rfl dX6_read_14 (fun H locs hW => ?_)
  refine lv_aload_n hx hb dX6_read_17 rfl (lv_at hl 0 rfl) ?_
  refine lv_bipush (v := (-9)) hx hb dX6_read_18 (by decide) ?_
  refine gp_X6_22 C hW (by decide) rfl dX6_read_20 (fun H locs hW => ?_)
  refine lv_aload_n hx hb dX6_read_23 rfl (lv_at hl 0 rfl) ?_
  refine lv_iconst (v := 0) hx hb dX6_read_24 (by decide) ?_
  refine gp_X6_39 C hW (by decide) rfl dX6_read_25 (fun H locs hW => ?_)
  refine lv_aload_n hx hb dX6_read_28 rfl (lv_at hl 0 rfl) ?_
  refine g_callvV (σ' := kAdvS (gu (gu (gu (gu (kReset σ) 1 8 (bI false)) 1 9 (bI false)) 1 3 (-9)) 1 7 0) t) (rest := []) (As := []) C hW kv_X6_42 1 (by decide) (gL_6 rfl) rfl (k_nextToken l G (gu (gu (gu (gu (kReset σ) 1 8 (bI false)) 1 9 (bI false)) 1 3 (-9)) 1 7 0) τ t (⟨ht, ht2, 0, Nat.zero_le _, rfl⟩ : kOk (gu (gu (gu (gu (kReset σ) 1 8 (bI false)) 1 9 (bI false)) 1 3 (-9)) 1 7 0) t)) ⟨Nat.le_of_ble_eq_true rfl, Nat.le_of_ble_eq_true rfl⟩ ⟨Nat.le_refl _, Nat.le_refl _⟩ rfl hl.1 rfl (Nat.le_of_ble_eq_true rfl) dX6_read_29 (fun H locs hW => ?_)
  refine lv_iconst (v := 0) hx hb dX6_read_32 (by decide) ?_
  refine lv_istore_n (lv' := [(1, .int 0), (0, .ref (gAd G 1))]) hx hb dX6_read_33 rfl hl (by decide) rfl (fun ls hl => ?_)
  have L34 : ∀ (n : Nat) (i_ : Nat) (S : gSt) (H : Heap) (locs : List Loc) (ls : Array Slot), n + i_ = 200 → (kOk S t) → (saOk S) → (dInv S) → (kReadL t n S i_ = kReadL t 200 (kRead0 σ t) 0) → gW G s S τ H locs → lv_has ls 2 [(1, .int (nI i_)), (0, .ref (gAd G 1))] → W p l e (gRm 5 110) s m args below meth c H locs 0 0 (MQ below (gQi G (nI (kRead σ t).2) ((kRead σ t).1) τ) args s 0 0 (gA G)) (F0 m 34 ls []) := by
    intro n
    induction n with
    | zero =>
      intro i_ S H locs ls hm hp hsa hd hq hW hl
      refine lv_iload_n hx hb dX6_read_34 rfl (lv_at hl 0 rfl) ?_
      refine lv_sipush (v := 200) hx hb dX6_read_35 (by decide) ?_
      refine lv_icmp_ge (tgt := 75) hx hb dX6_read_38 (by decide) (fun _ => ?_) (fun zz => absurd (show nI 200 ≤ nI i_ from nI_le (by omega) (by omega)) zz)
      have hf : kRead σ t = (S, i_) := by rw [kRead, ← hq]; rfl
      refine lv_iload_n hx hb dX6_read_75 rfl (lv_at hl 0 rfl) ?_
      exact g_iret C hr hlk hW dX6_read_76 (by rw [hf]) (by rw [hf]) (rfl)
    | succ n ih34 =>
      intro i_ S H locs ls hm hp hsa hd hq hW hl
      refine lv_iload_n hx hb dX6_read_34 rfl (lv_at hl 0 rfl) ?_
      refine lv_sipush (v := 200) hx hb dX6_read_35 (by decide) ?_
      refine lv_icmp_ge (tgt := 75) hx hb dX6_read_38 (by decide) (fun zz => absurd zz (show ¬ nI 200 ≤ nI i_ from nI_ge (by omega) (by omega))) (fun _ => ?_)
      refine lv_aload_n hx hb dX6_read_41 rfl (lv_at hl 1 rfl) ?_
      refine gf_X6_45 (v := S 1 4) C hW (by decide) rfl rfl dX6_read_42 ?_
      refine lv_iconst (v := (-1)) hx hb dX6_read_45 (by decide) ?_
      refine lv_icmp_eq (tgt := 75) hx hb dX6_read_46 (by decide) (fun c_1 => ?_) (fun c_1 => ?_)
      · skip
        have hf : kRead σ t = (S, i_) := by rw [kRead, ← hq, kReadL, if_pos (Or.inl c_1)]
        refine lv_iload_n hx hb dX6_read_75 rfl (lv_at hl 0 rfl) ?_
        exact g_iret C hr hlk hW dX6_read_76 (by rw [hf]) (by rw [hf]) (rfl)
      · skip
        refine lv_aload_n hx hb dX6_read_49 rfl (lv_at hl 1 rfl) ?_
        refine g_callvI (r := bI (!decide (S 1 3 = -9))) (σ' := S) (rest := []) (As := []) C hW kv_X6_48 1 (by decide) (gL_6 rfl) rfl (k_hasFault l G S τ) ⟨Nat.le_of_ble_eq_true rfl, Nat.le_of_ble_eq_true rfl⟩ ⟨Nat.le_refl _, Nat.le_refl _⟩ rfl hl.1 rfl (Nat.le_of_ble_eq_true rfl) dX6_read_50 (fun H locs hW => ?_)
        refine lv_if_ne (tgt := 75) hx hb dX6_read_53 (by decide) (fun c_2 => ?_) (fun c_2 => ?_)
        · skip
          replace c_2 : (!decide (S 1 3 = -9)) = true := bI_ne0.mp c_2
          have hf : kRead σ t = (S, i_) := by rw [kRead, ← hq, kReadL, if_pos (Or.inr (by simpa using c_2))]
          refine lv_iload_n hx hb dX6_read_75 rfl (lv_at hl 0 rfl) ?_
          exact g_iret C hr hlk hW dX6_read_76 (by rw [hf]) (by rw [hf]) (rfl)
        · skip
          replace c_2 : (!decide (S 1 3 = -9)) = false := bI_eq0.mp c_2
          refine lv_aload_n hx hb dX6_read_56 rfl (lv_at hl 1 rfl) ?_
          have K66 : ∀ (z : Bool), z = (decide (nI i_ = 0)) → ∀ (H : Heap) (locs : List Loc) (ls : Array Slot), gW G s S τ H locs → lv_has ls 2 [(1, .int (nI i_)), (0, .ref (gAd G 1))] → W p l e (gRm 5 110) s m args below meth c H locs 0 0 (MQ below (gQi G (nI (kRead σ t).2) ((kRead σ t).1) τ) args s 0 0 (gA G)) (F0 m 66 ls [.int (bI z), .ref (gAd G 1)]) := by
            intro z hz H locs ls hW hl
            subst hz
            refine g_callvV (σ' := kItemS S t (decide (nI i_ = 0))) (rest := []) (As := [.int (bI (decide (nI i_ = 0)))]) C hW kv_X6_52 1 (by decide) (gL_6 rfl) rfl (k_readItem l G S τ (decide (nI i_ = 0)) t hp hsa hd) ⟨Nat.le_of_ble_eq_true rfl, Nat.le_of_ble_eq_true rfl⟩ ⟨Nat.le_refl _, Nat.le_refl _⟩ rfl hl.1 rfl (Nat.le_of_ble_eq_true rfl) dX6_read_66 (fun H locs hW => ?_)
            refine lv_iinc (v := nI (i_ + 1)) (lv' := [(1, .int (nI (i_ + 1))), (0, .ref (gAd G 1))]) hx hb dX6_read_69 hl (k := 0) rfl (nI_1 _) (by decide) rfl (fun ls hl => ?_)
            refine lv_goto (tgt := 34) hx hb dX6_read_72 (by decide) ?_
            exact ih34 (i_ + 1) (kItemS S t (decide (nI i_ = 0))) _ _ _ (by omega) (kOk_item hp) (saOk_item hp hsa) (dInv_item hp hsa hd) (by rw [← hq, kReadL, if_neg (by rintro (q | q); exact c_1 q; exact q (by simpa using c_2))]) hW (lv_sub hl [0, 1] rfl)
          refine lv_iload_n hx hb dX6_read_57 rfl (lv_at hl 0 rfl) ?_
          refine lv_if_ne (tgt := 65) hx hb dX6_read_58 (by decide) (fun c_3 => ?_) (fun c_3 => ?_)
          · skip
            refine lv_iconst (v := 0) hx hb dX6_read_65 (by decide) ?_
            exact K66 false (by simp [c_3]) _ _ _ hW (lv_sub hl [0, 1] rfl)
          · skip
            refine lv_iconst (v := 1) hx hb dX6_read_61 (by decide) ?_
            refine lv_goto (tgt := 66) hx hb dX6_read_62 (by decide) ?_
            exact K66 true (by simp [c_3]) _ _ _ hW (lv_sub hl [0, 1] rfl)
  exact L34 200 0 (kRead0 σ t) _ _ _ (by omega) (kOk_adv (⟨ht, ht2, 0, Nat.zero_le _, rfl⟩ : kOk (gu (gu (gu (gu (kReset σ) 1 8 (bI false)) 1 9 (bI false)) 1 3 (-9)) 1 7 0) t)) (saOk_adv (⟨ht, ht2, 0, Nat.zero_le _, rfl⟩ : kOk (gu (gu (gu (gu (kReset σ) 1 8 (bI false)) 1 9 (bI false)) 1 3 (-9)) 1 7 0) t)) (dInv_rows (congrFun (kAdvS_ne (by decide)) 1) (congrFun (kAdvS_ne (by decide)) 2) ⟨0, 0, by decide, by decide, rfl, rfl⟩) rfl hW (lv_sub hl [0, 1] rfl)
