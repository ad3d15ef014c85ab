/-! ===== the reference: takes, numbers, items ===== -/
def mTakeS (σ : gSt) (t : Nat) (b : Bool) : gSt := if σ 96 8 < 0 then (if b = true then mAdvS σ t else gu σ 96 8 (σ 96 6)) else σ
def mTakeR (σ : gSt) (b : Bool) : Int32 := if σ 96 8 < 0 then (if b = true then σ 96 7 else 0) else 0
theorem mAdvS_ne {σ : gSt} {t c : Nat} (h : c ≠ 96) : mAdvS σ t c = σ c := mPS_ne h
theorem mTakeS_ne {σ : gSt} {t c : Nat} {b : Bool} (h : c ≠ 96) : mTakeS σ t b c = σ c := by
  unfold mTakeS
  split
  · split
    · exact mAdvS_ne h
    · exact gu_ne h
  · rfl
theorem pOk_gu {σ : gSt} {t c k : Nat} {x : Int32} (hc : ¬ (c = 96 ∧ (k = 3 ∨ k = 4))) (h : pOk σ t) : pOk (gu σ c k x) t := by
  obtain ⟨h1, h2, q, h3, h4⟩ := h
  refine ⟨?_, h2, q, h3, ?_⟩
  · rw [gu_at, if_neg (fun z => hc ⟨z.1.symm, Or.inl z.2.symm⟩)]; exact h1
  · rw [gu_at, if_neg (fun z => hc ⟨z.1.symm, Or.inr z.2.symm⟩)]; exact h4
theorem pOk_take {σ : gSt} {t : Nat} {b : Bool} (h : pOk σ t) : pOk (mTakeS σ t b) t := by
  unfold mTakeS
  split
  · split
    · exact pOk_adv h
    · exact pOk_gu (by decide) h
  · exact h
def mNumOk (σ : gSt) (a b : Int32) : Bool := decide (σ 96 5 = 2) && mIn (σ 96 7) a b
def mNumS (σ : gSt) (t : Nat) (a b : Int32) : gSt := mTakeS σ t (mNumOk σ a b)
def mNumR (σ : gSt) (a b : Int32) : Int32 := mTakeR σ (mNumOk σ a b)
theorem pOk_num {σ : gSt} {t : Nat} {a b : Int32} (h : pOk σ t) : pOk (mNumS σ t a b) t := pOk_take h
theorem mNumS_ne {σ : gSt} {t c : Nat} {a b : Int32} (h : c ≠ 96) : mNumS σ t a b c = σ c := mTakeS_ne h
def mBegS (σ : gSt) : gSt := gu (gu (gu (gu (gu (gu σ 96 10 0) 98 5 2) 98 6 0) 98 7 0) 98 8 2) 98 9 3
def mMay (σ : gSt) (a0 : Int32) : Bool :=
  if σ 96 7 = 119 then decide (a0 = 0) else if σ 96 7 = 112 then !decide (5 ≤ σ 98 6) else if σ 96 7 = 100 then !decide (8 ≤ σ 98 7) else decide (σ 96 10 &&& (if σ 96 7 = 103 then 1 else 2) = 0)
/-- a number is read and put into a row -/
def mDst (c o : Nat) (a b : Int32) (t : Nat) (S : gSt) : gSt := gu (mNumS S t a b) c o (mNumR S a b)
theorem pOk_dst {σ : gSt} {t c o : Nat} {a b : Int32} (hc : c ≠ 96) (h : pOk σ t) : pOk (mDst c o a b t σ) t := pOk_gu (fun q => hc q.1) (pOk_num h)
abbrev q6 (σ : gSt) : Nat := (σ 98 6).toNatClampNeg
abbrev q7 (σ : gSt) : Nat := (σ 98 7).toNatClampNeg
def mDutyT (σ : gSt) (t : Nat) : gSt := mDst 103 (8 + q7 σ) 1 60 t (mDst 102 (8 + q7 σ) 0 239 t (mDst 101 (8 + q7 σ) 0 (σ 98 5 - 1) t (mDst 100 (q7 σ) 0 (σ 98 6 - 1) t σ)))
def mItemS (σ : gSt) (t : Nat) (a0 : Int32) : gSt :=
  if a0 = 119 then mDst 98 5 2 6 t σ
  else if a0 = 112 then gu (mDst 99 (5 + q6 σ) 0 (σ 98 5 - 1) t σ) 98 6 (mDst 99 (5 + q6 σ) 0 (σ 98 5 - 1) t σ 98 6 + 1)
  else if a0 = 100 then gu (mDutyT σ t) 98 7 (mDutyT σ t 98 7 + 1)
  else if a0 = 103 then gu (mDst 98 8 1 9 t σ) 96 10 (mDst 98 8 1 9 t σ 96 10 ||| 1)
  else gu (mDst 98 9 0 9 t σ) 96 10 (mDst 98 9 0 9 t σ 96 10 ||| 2)
def gfill (c : Nat) (σ : gSt) : Nat → gSt
  | 0 => σ
  | k + 1 => gu (gfill c σ k) c k 0
theorem gfill_ne {c c2 : Nat} {σ : gSt} (h : c2 ≠ c) : ∀ n, gfill c σ n c2 = σ c2
  | 0 => rfl
  | n + 1 => by rw [gfill, gu_ne h, gfill_ne h n]
def mSetP (σ : gSt) : Nat → gSt
  | 0 => σ
  | p + 1 => gu (gu (mSetP σ p) 99 p (mSetP σ p 99 (5 + p))) 104 p (if mSetP σ p 98 1 ≤ nI p then 0 else gu (mSetP σ p) 99 p (mSetP σ p 99 (5 + p)) 99 p)
def mSetD1 (S : gSt) (d : Nat) : gSt := gu (gu (gu S 101 d (S 101 (8 + d))) 102 d (S 102 (8 + d))) 103 d (S 103 (8 + d))
def mSetD (σ : gSt) : Nat → gSt
  | 0 => σ
  | d + 1 => gu (mSetD1 (mSetD σ d) d) 104 (17 + d) (if mSetD σ d 98 2 ≤ nI d then 0 else mSetD σ d 100 d)
def mSettle (σ : gSt) : gSt := gu (gu (gu (gu (gu (mSetD (mSetP (gfill 104 (gcp 98 98 0 5 σ 5) 25) 5) 8) 96 3 0) 96 24 0) 96 20 0) 106 0 0) 106 1 0
/-- one item -/
def mB1 (S : gSt) (i : Nat) : Bool := decide (S 96 5 = 1) && mMay S (nI i)
def mS2 (S : gSt) (t i : Nat) : gSt := if mTakeS S t (mB1 S i) 96 8 < 0 then mItemS (mTakeS S t (mB1 S i)) t (mTakeR S (mB1 S i)) else mTakeS S t (mB1 S i)
def mStep (S : gSt) (t i : Nat) : gSt := mTakeS (mS2 S t i) t (decide (mS2 S t i 96 5 = 3))
def mTownL (t : Nat) : Nat → gSt → Nat → gSt × Nat
  | 0, S, i => (S, i)
  | n + 1, S, i => if S 96 8 < 0 ∧ ¬ S 96 5 = 0 then mTownL t n (mStep S t i) (i + 1) else (S, i)
def mTown0 (σ : gSt) (t : Nat) : gSt := mAdvS (mBegS (gu (gu σ 96 8 (-1)) 96 4 0)) t
/-- the state and the items behind the reading -/
def mTown (σ : gSt) (t : Nat) : gSt × Nat := mTownL t (t + 1) (mTown0 σ t) 0
set_option maxHeartbeats 4000000 in
set_option maxRecDepth 100000 in
theorem m_takes (l : Launch) (G : gG) (σ : gSt) (τ : Nat → Int64) (b : Bool) (t : Nat) (hp : pOk σ t) : gI l yX10_takes cX10_takes 3 (some .int) 2 43 G [.ref (gAd G 96), .int (bI b)] σ τ (mTakeR σ b) (mTakeS σ t b) τ := by
  refine gMet_of (by decide) (Nat.le_of_ble_eq_true rfl) ?_
  intro p e s m args below meth c C hr hlk ls hl hW
  have hx := C.1
  have hb := C.2.1
  have hl : lv_has ls 3 [(0, .ref (gAd G 96)), (1, .int (bI b))] := hl
  refine lv_aload_n hx hb dX10_takes_0 rfl (lv_at hl 0 rfl) ?_
  refine g_callvI (r := bI (decide (σ 96 8 < 0))) (σ' := σ) (rest := []) (As := []) C hW kv_X10_96 96 (by decide) (gL_10 rfl) rfl (m_isWell l G σ τ) ⟨Nat.le_of_ble_eq_true rfl, Nat.le_of_ble_eq_true rfl⟩ ⟨Nat.le_refl _, Nat.le_refl _⟩ rfl hl.1 rfl (Nat.le_of_ble_eq_true rfl) dX10_takes_1 (fun H locs hW => ?_)
  refine lv_if_ne (tgt := 9) hx hb dX10_takes_4 (by decide) (fun c_1 => ?_) (fun c_1 => ?_)
  · skip
    replace c_1 : (decide (σ 96 8 < 0)) = true := bI_ne0.mp c_1
    refine lv_iload_n hx hb dX10_takes_9 rfl (lv_at hl 1 rfl) ?_
    refine lv_if_ne (tgt := 23) hx hb dX10_takes_10 (by decide) (fun c_2 => ?_) (fun c_2 => ?_)
    · skip
      replace c_2 : b = true := bI_ne0.mp c_2
      refine lv_aload_n hx hb dX10_takes_23 rfl (lv_at hl 0 rfl) ?_
      refine gf_X10_86 (v := σ 96 7) C hW (by decide) rfl rfl dX10_takes_24 ?_
      refine lv_istore_n (lv' := [(2, .int (σ 96 7)), (0, .ref (gAd G 96)), (1, .int (bI b))]) hx hb dX10_takes_27 rfl hl (by decide) rfl (fun ls hl => ?_)
      refine lv_aload_n hx hb dX10_takes_28 rfl (lv_at hl 1 rfl) ?_
      refine g_callvV (σ' := mAdvS σ t) (rest := []) (As := []) C hW kv_X10_100 96 (by decide) (gL_10 rfl) rfl (m_advances l G σ τ t hp) ⟨Nat.le_of_ble_eq_true rfl, Nat.le_of_ble_eq_true rfl⟩ ⟨Nat.le_refl _, Nat.le_refl _⟩ rfl hl.1 rfl (Nat.le_of_ble_eq_true rfl) dX10_takes_29 (fun H locs hW => ?_)
      refine lv_iload_n hx hb dX10_takes_32 rfl (lv_at hl 0 rfl) ?_
      exact g_iret C hr hlk hW dX10_takes_33 (by rw [mTakeR, if_pos (of_decide_eq_true c_1), if_pos c_2]) (by rw [mTakeS, if_pos (of_decide_eq_true c_1), if_pos c_2]) (rfl)
    · skip
      replace c_2 : b = false := bI_eq0.mp c_2
      refine lv_aload_n hx hb dX10_takes_13 rfl (lv_at hl 0 rfl) ?_
      refine lv_aload_n hx hb dX10_takes_14 rfl (lv_at hl 0 rfl) ?_
      refine gf_X10_80 (v := σ 96 6) C hW (by decide) rfl rfl dX10_takes_15 ?_
      refine gp_X10_93 C hW (by decide) rfl dX10_takes_18 (fun H locs hW => ?_)
      refine lv_iconst (v := 0) hx hb dX10_takes_21 (by decide) ?_
      exact g_iret C hr hlk hW dX10_takes_22 (by rw [mTakeR, if_pos (of_decide_eq_true c_1), if_neg (bneg c_2)]) (by rw [mTakeS, if_pos (of_decide_eq_true c_1), if_neg (bneg c_2)]) (rfl)
  · skip
    replace c_1 : (decide (σ 96 8 < 0)) = false := bI_eq0.mp c_1
    refine lv_iconst (v := 0) hx hb dX10_takes_7 (by decide) ?_
    exact g_iret C hr hlk hW dX10_takes_8 (by rw [mTakeR, if_neg (of_decide_eq_false c_1)]) (by rw [mTakeS, if_neg (of_decide_eq_false c_1)]) (rfl)
set_option maxHeartbeats 4000000 in
set_option maxRecDepth 100000 in
theorem m_number (l : Launch) (G : gG) (σ : gSt) (τ : Nat → Int64) (a0 a1 : Int32) (t : Nat) (hp : pOk σ t) : gI l yX10_number cX10_number 3 (some .int) 3 65 G [.ref (gAd G 96), .int a0, .int a1] σ τ (mNumR σ a0 a1) (mNumS σ t a0 a1) τ := by
  refine gMet_of (by decide) (Nat.le_of_ble_eq_true rfl) ?_
  intro p e s m args below meth c C hr hlk ls hl hW
  have hx := C.1
  have hb := C.2.1
  have hl : lv_has ls 3 [(0, .ref (gAd G 96)), (1, .int a0), (2, .int a1)] := hl
  refine lv_aload_n hx hb dX10_number_0 rfl (lv_at hl 0 rfl) ?_
  have K26 : ∀ (z : Bool), z = (mNumOk σ a0 a1) → ∀ (H : Heap) (locs : List Loc) (ls : Array Slot), gW G s σ τ H locs → lv_has ls 3 [(0, .ref (gAd G 96)), (1, .int a0), (2, .int a1)] → W p l e (gRm 3 65) s m args below meth c H locs 0 0 (MQ below (gQi G (mNumR σ a0 a1) (mNumS σ t a0 a1) τ) args s 0 0 (gA G)) (F0 m 26 ls [.int (bI z), .ref (gAd G 96)]) := by
    intro z hz H locs ls hW hl
    refine g_callvI (r := mTakeR σ z) (σ' := mTakeS σ t z) (rest := []) (As := [.int (bI z)]) C hW kv_X10_103 96 (by decide) (gL_10 rfl) rfl (m_takes l G σ τ z t hp) ⟨Nat.le_of_ble_eq_true rfl, Nat.le_of_ble_eq_true rfl⟩ ⟨Nat.le_refl _, Nat.le_refl _⟩ rfl hl.1 rfl (Nat.le_of_ble_eq_true rfl) dX10_number_26 (fun H locs hW => ?_)
    exact g_iret C hr hlk hW dX10_number_29 (by rw [hz]; rfl) (by rw [hz]; rfl) (rfl)
  refine lv_aload_n hx hb dX10_number_1 rfl (lv_at hl 0 rfl) ?_
  refine gf_X10_83 (v := σ 96 5) C hW (by decide) rfl rfl dX10_number_2 ?_
  refine lv_iconst (v := 2) hx hb dX10_number_5 (by decide) ?_
  refine lv_icmp_ne (tgt := 25) hx hb dX10_number_6 (by decide) (fun c_1 => ?_) (fun c_1 => ?_)
  · skip
    refine lv_iconst (v := 0) hx hb dX10_number_25 (by decide) ?_
    exact K26 false (by simp [mNumOk, c_1]) _ _ _ hW (lv_sub hl [0, 1, 2] rfl)
  · skip
    refine lv_aload_n hx hb dX10_number_9 rfl (lv_at hl 0 rfl) ?_
    refine gf_X10_86 (v := σ 96 7) C hW (by decide) rfl rfl dX10_number_10 ?_
    refine lv_iload_n hx hb dX10_number_13 rfl (lv_at hl 1 rfl) ?_
    refine lv_iload_n hx hb dX10_number_14 rfl (lv_at hl 2 rfl) ?_
    refine g_callsI (r := bI (mIn (σ 96 7) a0 a1)) (σ' := σ) (rest := [.ref (gAd G 96)]) (As := [.int (σ 96 7), .int a0, .int a1]) C hW ks_X10_66 (m_in l G σ τ (σ 96 7) a0 a1) ⟨Nat.le_of_ble_eq_true rfl, Nat.le_of_ble_eq_true rfl⟩ ⟨Nat.le_refl _, Nat.le_refl _⟩ rfl hl.1 rfl (Nat.le_of_ble_eq_true rfl) dX10_number_15 (fun H locs hW => ?_)
    refine lv_if_eq (tgt := 25) hx hb dX10_number_18 (by decide) (fun c_2 => ?_) (fun c_2 => ?_)
    · skip
      replace c_2 : (mIn (σ 96 7) a0 a1) = false := bI_eq0.mp c_2
      refine lv_iconst (v := 0) hx hb dX10_number_25 (by decide) ?_
      exact K26 false (by simp [mNumOk, c_1, c_2]) _ _ _ hW (lv_sub hl [0, 1, 2] rfl)
    · skip
      replace c_2 : (mIn (σ 96 7) a0 a1) = true := bI_ne0.mp c_2
      refine lv_iconst (v := 1) hx hb dX10_number_21 (by decide) ?_
      refine lv_goto (tgt := 26) hx hb dX10_number_22 (by decide) ?_
      exact K26 true (by simp [mNumOk, c_1, c_2]) _ _ _ hW (lv_sub hl [0, 1, 2] rfl)
set_option maxHeartbeats 4000000 in
set_option maxRecDepth 100000 in
theorem m_begins (l : Launch) (G : gG) (σ : gSt) (τ : Nat → Int64) : gV l yX10_begins cX10_begins 1 (none : Option Jvm.ClassFile.FieldType) 0 0 G [.ref (gAd G 96)] σ τ (mBegS σ) τ := by
  refine gMet_of (by decide) (Nat.le_of_ble_eq_true rfl) ?_
  intro p e s m args below meth c C hr hlk ls hl hW
  have hx := C.1
  have hb := C.2.1
  have hl : lv_has ls 1 [(0, .ref (gAd G 96))] := hl
  refine lv_aload_n hx hb dX10_begins_0 rfl (lv_at hl 0 rfl) ?_
  refine lv_iconst (v := 0) hx hb dX10_begins_1 (by decide) ?_
  refine gp_X10_107 C hW (by decide) rfl dX10_begins_2 (fun H locs hW => ?_)
  refine lv_aload_n hx hb dX10_begins_5 rfl (lv_at hl 0 rfl) ?_
  refine gf_X10_13 C hW (by decide) rfl dX10_begins_6 ?_
  refine lv_iconst (v := 5) hx hb dX10_begins_9 (by decide) ?_
  refine lv_iconst (v := 2) hx hb dX10_begins_10 (by decide) ?_
  refine g_ast 5 C hW (by decide) rfl rfl (by decide) (by decide) dX10_begins_11 (fun H locs hW => ?_)
  refine lv_aload_n hx hb dX10_begins_12 rfl (lv_at hl 0 rfl) ?_
  refine gf_X10_13 C hW (by decide) rfl dX10_begins_13 ?_
  refine lv_bipush (v := 6) hx hb dX10_begins_16 (by decide) ?_
  refine lv_iconst (v := 0) hx hb dX10_begins_18 (by decide) ?_
  refine g_ast 6 C hW (by decide) rfl rfl (by decide) (by decide) dX10_begins_19 (fun H locs hW => ?_)
  refine lv_aload_n hx hb dX10_begins_20 rfl (lv_at hl 0 rfl) ?_
  refine gf_X10_13 C hW (by decide) rfl dX10_begins_21 ?_
  refine lv_bipush (v := 7) hx hb dX10_begins_24 (by decide) ?_
  refine lv_iconst (v := 0) hx hb dX10_begins_26 (by decide) ?_
  refine g_ast 7 C hW (by decide) rfl rfl (by decide) (by decide) dX10_begins_27 (fun H locs hW => ?_)
  refine lv_aload_n hx hb dX10_begins_28 rfl (lv_at hl 0 rfl) ?_
  refine gf_X10_13 C hW (by decide) rfl dX10_begins_29 ?_
  refine lv_bipush (v := 8) hx hb dX10_begins_32 (by decide) ?_
  refine lv_iconst (v := 2) hx hb dX10_begins_34 (by decide) ?_
  refine g_ast 8 C hW (by decide) rfl rfl (by decide) (by decide) dX10_begins_35 (fun H locs hW => ?_)
  refine lv_aload_n hx hb dX10_begins_36 rfl (lv_at hl 0 rfl) ?_
  refine gf_X10_13 C hW (by decide) rfl dX10_begins_37 ?_
  refine lv_bipush (v := 9) hx hb dX10_begins_40 (by decide) ?_
  refine lv_iconst (v := 3) hx hb dX10_begins_42 (by decide) ?_
  refine g_ast 9 C hW (by decide) rfl rfl (by decide) (by decide) dX10_begins_43 (fun H locs hW => ?_)
  exact g_vret C hr hlk hW dX10_begins_44 (rfl) (rfl)
set_option maxHeartbeats 4000000 in
set_option maxRecDepth 100000 in
theorem m_mayBegin (l : Launch) (G : gG) (σ : gSt) (τ : Nat → Int64) (a0 : Int32) : gI l yX10_mayBegin cX10_mayBegin 2 (some .boolean) 0 0 G [.ref (gAd G 96), .int a0] σ τ (bI (mMay σ a0)) σ τ := by
  refine gMet_of (by decide) (Nat.le_of_ble_eq_true rfl) ?_
  intro p e s m args below meth c C hr hlk ls hl hW
  have hx := C.1
  have hb := C.2.1
  have hl : lv_has ls 2 [(0, .ref (gAd G 96)), (1, .int a0)] := hl
  refine lv_aload_n hx hb dX10_mayBegin_0 rfl (lv_at hl 0 rfl) ?_
  refine gf_X10_86 (v := σ 96 7) C hW (by decide) rfl rfl dX10_mayBegin_1 ?_
  refine lv_bipush (v := 119) hx hb dX10_mayBegin_4 (by decide) ?_
  refine lv_icmp_ne (tgt := 19) hx hb dX10_mayBegin_6 (by decide) (fun c_1 => ?_) (fun c_1 => ?_)
  · skip
    refine lv_aload_n hx hb dX10_mayBegin_19 rfl (lv_at hl 0 rfl) ?_
    refine gf_X10_86 (v := σ 96 7) C hW (by decide) rfl rfl dX10_mayBegin_20 ?_
    refine lv_bipush (v := 112) hx hb dX10_mayBegin_23 (by decide) ?_
    refine lv_icmp_eq (tgt := 37) hx hb dX10_mayBegin_25 (by decide) (fun c_2 => ?_) (fun c_2 => ?_)
    · skip
      refine lv_aload_n hx hb dX10_mayBegin_37 rfl (lv_at hl 0 rfl) ?_
      refine gf_X10_86 (v := σ 96 7) C hW (by decide) rfl rfl dX10_mayBegin_38 ?_
      refine lv_bipush (v := 112) hx hb dX10_mayBegin_41 (by decide) ?_
      refine lv_icmp_ne (tgt := 65) hx hb dX10_mayBegin_43 (by decide) (fun c_3 => ?_) (fun c_3 => ?_)
      · skip
        refine lv_aload_n hx hb dX10_mayBegin_65 rfl (lv_at hl 0 rfl) ?_
        refine gf_X10_13 C hW (by decide) rfl dX10_mayBegin_66 ?_
        refine lv_bipush (v := 7) hx hb dX10_mayBegin_69 (by decide) ?_
        refine g_ald (v := σ 98 7) 7 C hW (by decide) rfl rfl (by decide) (by decide) rfl dX10_mayBegin_71 ?_
        refine lv_bipush (v := 8) hx hb dX10_mayBegin_72 (by decide) ?_
        refine lv_icmp_ge (tgt := 81) hx hb dX10_mayBegin_74 (by decide) (fun c_4 => ?_) (fun c_4 => ?_)
        · skip
          refine lv_iconst (v := 0) hx hb dX10_mayBegin_81 (by decide) ?_
          exact g_zret C hr hlk hW dX10_mayBegin_82 (rfl) (by simp_all [bI, mMay]) (rfl) (rfl)
        · skip
          refine lv_iconst (v := 1) hx hb dX10_mayBegin_77 (by decide) ?_
          refine lv_goto (tgt := 82) hx hb dX10_mayBegin_78 (by decide) ?_
          exact g_zret C hr hlk hW dX10_mayBegin_82 (rfl) (by simp_all [bI, mMay]) (rfl) (rfl)
      · skip
        refine lv_aload_n hx hb dX10_mayBegin_46 rfl (lv_at hl 0 rfl) ?_
        refine gf_X10_13 C hW (by decide) rfl dX10_mayBegin_47 ?_
        refine lv_bipush (v := 6) hx hb dX10_mayBegin_50 (by decide) ?_
        refine g_ald (v := σ 98 6) 6 C hW (by decide) rfl rfl (by decide) (by decide) rfl dX10_mayBegin_52 ?_
        refine lv_iconst (v := 5) hx hb dX10_mayBegin_53 (by decide) ?_
        refine lv_icmp_ge (tgt := 61) hx hb dX10_mayBegin_54 (by decide) (fun c_5 => ?_) (fun c_5 => ?_)
        · skip
          refine lv_iconst (v := 0) hx hb dX10_mayBegin_61 (by decide) ?_
          refine lv_goto (tgt := 82) hx hb dX10_mayBegin_62 (by decide) ?_
          exact g_zret C hr hlk hW dX10_mayBegin_82 (rfl) (by simp_all [bI, mMay]) (rfl) (rfl)
        · skip
          refine lv_iconst (v := 1) hx hb dX10_mayBegin_57 (by decide) ?_
          refine lv_goto (tgt := 82) hx hb dX10_mayBegin_58 (by decide) ?_
          exact g_zret C hr hlk hW dX10_mayBegin_82 (rfl) (by simp_all [bI, mMay]) (rfl) (rfl)
    · skip
      refine lv_aload_n hx hb dX10_mayBegin_28 rfl (lv_at hl 0 rfl) ?_
      refine gf_X10_86 (v := σ 96 7) C hW (by decide) rfl rfl dX10_mayBegin_29 ?_
      refine lv_bipush (v := 100) hx hb dX10_mayBegin_32 (by decide) ?_
      refine lv_icmp_ne (tgt := 83) hx hb dX10_mayBegin_34 (by decide) (fun c_6 => ?_) (fun c_6 => ?_)
      · skip
        refine lv_aload_n hx hb dX10_mayBegin_83 rfl (lv_at hl 0 rfl) ?_
        refine gf_X10_107 (v := σ 96 10) C hW (by decide) rfl rfl dX10_mayBegin_84 ?_
        refine lv_aload_n hx hb dX10_mayBegin_87 rfl (lv_at hl 0 rfl) ?_
        refine gf_X10_86 (v := σ 96 7) C hW (by decide) rfl rfl dX10_mayBegin_88 ?_
        refine lv_bipush (v := 103) hx hb dX10_mayBegin_91 (by decide) ?_
        refine lv_icmp_ne (tgt := 100) hx hb dX10_mayBegin_93 (by decide) (fun c_7 => ?_) (fun c_7 => ?_)
        · skip
          refine lv_iconst (v := 2) hx hb dX10_mayBegin_100 (by decide) ?_
          refine lv_iand hx hb dX10_mayBegin_101 ?_
          refine lv_if_ne (tgt := 109) hx hb dX10_mayBegin_102 (by decide) (fun c_8 => ?_) (fun c_8 => ?_)
          · skip
            refine lv_iconst (v := 0) hx hb dX10_mayBegin_109 (by decide) ?_
            exact g_zret C hr hlk hW dX10_mayBegin_110 (rfl) (by simp_all [bI, mMay]) (rfl) (rfl)
          · skip
            refine lv_iconst (v := 1) hx hb dX10_mayBegin_105 (by decide) ?_
            refine lv_goto (tgt := 110) hx hb dX10_mayBegin_106 (by decide) ?_
            exact g_zret C hr hlk hW dX10_mayBegin_110 (rfl) (by simp_all [bI, mMay]) (rfl) (rfl)
        · skip
          refine lv_iconst (v := 1) hx hb dX10_mayBegin_96 (by decide) ?_
          refine lv_goto (tgt := 101) hx hb dX10_mayBegin_97 (by decide) ?_
          refine lv_iand hx hb dX10_mayBegin_101 ?_
          refine lv_if_ne (tgt := 109) hx hb dX10_mayBegin_102 (by decide) (fun c_9 => ?_) (fun c_9 => ?_)
          · skip
            refine lv_iconst (v := 0) hx hb dX10_mayBegin_109 (by decide) ?_
            exact g_zret C hr hlk hW dX10_mayBegin_110 (rfl) (by simp_all [bI, mMay]) (rfl) (rfl)
          · skip
            refine lv_iconst (v := 1) hx hb dX10_mayBegin_105 (by decide) ?_
            refine lv_goto (tgt := 110) hx hb dX10_mayBegin_106 (by decide) ?_
            exact g_zret C hr hlk hW dX10_mayBegin_110 (rfl) (by simp_all [bI, mMay]) (rfl) (rfl)
      · skip
        refine lv_aload_n hx hb dX10_mayBegin_37 rfl (lv_at hl 0 rfl) ?_
        refine gf_X10_86 (v := σ 96 7) C hW (by decide) rfl rfl dX10_mayBegin_38 ?_
        refine lv_bipush (v := 112) hx hb dX10_mayBegin_41 (by decide) ?_
        refine lv_icmp_ne (tgt := 65) hx hb dX10_mayBegin_43 (by decide) (fun c_10 => ?_) (fun c_10 => ?_)
        · skip
          refine lv_aload_n hx hb dX10_mayBegin_65 rfl (lv_at hl 0 rfl) ?_
          refine gf_X10_13 C hW (by decide) rfl dX10_mayBegin_66 ?_
          refine lv_bipush (v := 7) hx hb dX10_mayBegin_69 (by decide) ?_
          refine g_ald (v := σ 98 7) 7 C hW (by decide) rfl rfl (by decide) (by decide) rfl dX10_mayBegin_71 ?_
          refine lv_bipush (v := 8) hx hb dX10_mayBegin_72 (by decide) ?_
          refine lv_icmp_ge (tgt := 81) hx hb dX10_mayBegin_74 (by decide) (fun c_11 => ?_) (fun c_11 => ?_)
          · skip
            refine lv_iconst (v := 0) hx hb dX10_mayBegin_81 (by decide) ?_
            exact g_zret C hr hlk hW dX10_mayBegin_82 (rfl) (by simp_all [bI, mMay]) (rfl) (rfl)
          · skip
            refine lv_iconst (v := 1) hx hb dX10_mayBegin_77 (by decide) ?_
            refine lv_goto (tgt := 82) hx hb dX10_mayBegin_78 (by decide) ?_
            exact g_zret C hr hlk hW dX10_mayBegin_82 (rfl) (by simp_all [bI, mMay]) (rfl) (rfl)
        · skip
          refine lv_aload_n hx hb dX10_mayBegin_46 rfl (lv_at hl 0 rfl) ?_
          refine gf_X10_13 C hW (by decide) rfl dX10_mayBegin_47 ?_
          refine lv_bipush (v := 6) hx hb dX10_mayBegin_50 (by decide) ?_
          refine g_ald (v := σ 98 6) 6 C hW (by decide) rfl rfl (by decide) (by decide) rfl dX10_mayBegin_52 ?_
          refine lv_iconst (v := 5) hx hb dX10_mayBegin_53 (by decide) ?_
          refine lv_icmp_ge (tgt := 61) hx hb dX10_mayBegin_54 (by decide) (fun c_12 => ?_) (fun c_12 => ?_)
          · skip
            refine lv_iconst (v := 0) hx hb dX10_mayBegin_61 (by decide) ?_
            refine lv_goto (tgt := 82) hx hb dX10_mayBegin_62 (by decide) ?_
            exact g_zret C hr hlk hW dX10_mayBegin_82 (rfl) (by simp_all [bI, mMay]) (rfl) (rfl)
          · skip
            refine lv_iconst (v := 1) hx hb dX10_mayBegin_57 (by decide) ?_
            refine lv_goto (tgt := 82) hx hb dX10_mayBegin_58 (by decide) ?_
            exact g_zret C hr hlk hW dX10_mayBegin_82 (rfl) (by simp_all [bI, mMay]) (rfl) (rfl)
  · skip
    refine lv_iload_n hx hb dX10_mayBegin_9 rfl (lv_at hl 1 rfl) ?_
    refine lv_if_ne (tgt := 17) hx hb dX10_mayBegin_10 (by decide) (fun c_13 => ?_) (fun c_13 => ?_)
    · skip
      refine lv_iconst (v := 0) hx hb dX10_mayBegin_17 (by decide) ?_
      exact g_zret C hr hlk hW dX10_mayBegin_18 (rfl) (by simp_all [bI, mMay]) (rfl) (rfl)
    · skip
      refine lv_iconst (v := 1) hx hb dX10_mayBegin_13 (by decide) ?_
      refine lv_goto (tgt := 18) hx hb dX10_mayBegin_14 (by decide) ?_
      exact g_zret C hr hlk hW dX10_mayBegin_18 (rfl) (by simp_all [bI, mMay]) (rfl) (rfl)
set_option maxHeartbeats 4000000 in
set_option maxRecDepth 100000 in
theorem m_readsItem (l : Launch) (G : gG) (σ : gSt) (τ : Nat → Int64) (a0 : Int32) (t : Nat) (hp : pOk σ t) (h6 : σ 98 6 = nI (q6 σ)) (h7 : σ 98 7 = nI (q7 σ)) (h6b : a0 = 112 → q6 σ < 5) (h7b : a0 = 100 → q7 σ < 8) : gV l yX10_readsItem cX10_readsItem 4 (none : Option Jvm.ClassFile.FieldType) 4 87 G [.ref (gAd G 96), .int a0] σ τ (mItemS σ t a0) τ := by
  refine gMet_of (by decide) (Nat.le_of_ble_eq_true rfl) ?_
  intro p e s m args below meth c C hr hlk ls hl hW
  have hx := C.1
  have hb := C.2.1
  have hl : lv_has ls 4 [(0, .ref (gAd G 96)), (1, .int a0)] := hl
  refine lv_aload_n hx hb dX10_readsItem_0 rfl (lv_at hl 0 rfl) ?_
  refine gf_X10_13 C hW (by decide) rfl dX10_readsItem_1 ?_
  refine lv_iconst (v := 5) hx hb dX10_readsItem_4 (by decide) ?_
  refine g_ald (v := σ 98 5) 5 C hW (by decide) rfl rfl (by decide) (by decide) rfl dX10_readsItem_5 ?_
  refine lv_iconst (v := 1) hx hb dX10_readsItem_6 (by decide) ?_
  refine lv_isub hx hb dX10_readsItem_7 ?_
  refine lv_istore_n (lv' := [(2, .int ((σ 98 5) - 1)), (0, .ref (gAd G 96)), (1, .int a0)]) hx hb dX10_readsItem_8 rfl hl (by decide) rfl (fun ls hl => ?_)
  refine lv_iload_n hx hb dX10_readsItem_9 rfl (lv_at hl 2 rfl) ?_
  refine lv_bipush (v := 119) hx hb dX10_readsItem_10 (by decide) ?_
  refine lv_icmp_ne (tgt := 31) hx hb dX10_readsItem_12 (by decide) (fun c_1 => ?_) (fun c_1 => ?_)
  · skip
    refine lv_iload_n hx hb dX10_readsItem_31 rfl (lv_at hl 2 rfl) ?_
    refine lv_bipush (v := 112) hx hb dX10_readsItem_32 (by decide) ?_
    refine lv_icmp_ne (tgt := 71) hx hb dX10_readsItem_34 (by decide) (fun c_2 => ?_) (fun c_2 => ?_)
    · skip
      refine lv_iload_n hx hb dX10_readsItem_71 rfl (lv_at hl 2 rfl) ?_
      refine lv_bipush (v := 100) hx hb dX10_readsItem_72 (by decide) ?_
      refine lv_icmp_ne (tgt := 167) hx hb dX10_readsItem_74 (by decide) (fun c_3 => ?_) (fun c_3 => ?_)
      · skip
        refine lv_iload_n hx hb dX10_readsItem_167 rfl (lv_at hl 2 rfl) ?_
        refine lv_bipush (v := 103) hx hb dX10_readsItem_168 (by decide) ?_
        refine lv_icmp_ne (tgt := 200) hx hb dX10_readsItem_170 (by decide) (fun c_4 => ?_) (fun c_4 => ?_)
        · skip
          refine lv_aload_n hx hb dX10_readsItem_200 rfl (lv_at hl 1 rfl) ?_
          refine gf_X10_13 C hW (by decide) rfl dX10_readsItem_201 ?_
          refine lv_bipush (v := 9) hx hb dX10_readsItem_204 (by decide) ?_
          refine lv_aload_n hx hb dX10_readsItem_206 rfl (lv_at hl 1 rfl) ?_
          refine lv_iconst (v := 0) hx hb dX10_readsItem_207 (by decide) ?_
          refine lv_bipush (v := 9) hx hb dX10_readsItem_208 (by decide) ?_
          refine g_callvI (r := mNumR σ 0 9) (σ' := mNumS σ t 0 9) (rest := [.int 9, .ref (gAd G 98)]) (As := [.int 0, .int 9]) C hW kv_X10_110 96 (by decide) (gL_10 rfl) rfl (m_number l G σ τ 0 9 t hp) ⟨Nat.le_of_ble_eq_true rfl, Nat.le_of_ble_eq_true rfl⟩ ⟨Nat.le_refl _, Nat.le_refl _⟩ rfl hl.1 rfl (Nat.le_of_ble_eq_true rfl) dX10_readsItem_210 (fun H locs hW => ?_)
          refine g_ast 9 C hW (by decide) rfl rfl (by decide) (by decide) dX10_readsItem_213 (fun H locs hW => ?_)
          refine lv_aload_n hx hb dX10_readsItem_214 rfl (lv_at hl 1 rfl) ?_
          refine lv_dup hx hb dX10_readsItem_215 rfl ?_
          refine gf_X10_107 (v := (mNumS σ t 0 9) 96 10) C hW (by decide) rfl rfl dX10_readsItem_216 ?_
          refine lv_iconst (v := 2) hx hb dX10_readsItem_219 (by decide) ?_
          refine lv_ior hx hb dX10_readsItem_220 ?_
          refine gp_X10_107 C hW (by decide) rfl dX10_readsItem_221 (fun H locs hW => ?_)
          exact g_vret C hr hlk hW dX10_readsItem_224 (by rw [mItemS, if_neg c_1, if_neg c_2, if_neg c_3, if_neg c_4]; rfl) (rfl)
        · skip
          refine lv_aload_n hx hb dX10_readsItem_173 rfl (lv_at hl 1 rfl) ?_
          refine gf_X10_13 C hW (by decide) rfl dX10_readsItem_174 ?_
          refine lv_bipush (v := 8) hx hb dX10_readsItem_177 (by decide) ?_
          refine lv_aload_n hx hb dX10_readsItem_179 rfl (lv_at hl 1 rfl) ?_
          refine lv_iconst (v := 1) hx hb dX10_readsItem_180 (by decide) ?_
          refine lv_bipush (v := 9) hx hb dX10_readsItem_181 (by decide) ?_
          refine g_callvI (r := mNumR σ 1 9) (σ' := mNumS σ t 1 9) (rest := [.int 8, .ref (gAd G 98)]) (As := [.int 1, .int 9]) C hW kv_X10_110 96 (by decide) (gL_10 rfl) rfl (m_number l G σ τ 1 9 t hp) ⟨Nat.le_of_ble_eq_true rfl, Nat.le_of_ble_eq_true rfl⟩ ⟨Nat.le_refl _, Nat.le_refl _⟩ rfl hl.1 rfl (Nat.le_of_ble_eq_true rfl) dX10_readsItem_183 (fun H locs hW => ?_)
          refine g_ast 8 C hW (by decide) rfl rfl (by decide) (by decide) dX10_readsItem_186 (fun H locs hW => ?_)
          refine lv_aload_n hx hb dX10_readsItem_187 rfl (lv_at hl 1 rfl) ?_
          refine lv_dup hx hb dX10_readsItem_188 rfl ?_
          refine gf_X10_107 (v := (mNumS σ t 1 9) 96 10) C hW (by decide) rfl rfl dX10_readsItem_189 ?_
          refine lv_iconst (v := 1) hx hb dX10_readsItem_192 (by decide) ?_
          refine lv_ior hx hb dX10_readsItem_193 ?_
          refine gp_X10_107 C hW (by decide) rfl dX10_readsItem_194 (fun H locs hW => ?_)
          refine lv_goto (tgt := 224) hx hb dX10_readsItem_197 (by decide) ?_
          exact g_vret C hr hlk hW dX10_readsItem_224 (by rw [mItemS, if_neg c_1, if_neg c_2, if_neg c_3, if_pos c_4]; rfl) (rfl)
      · skip
        have h7c := h7b c_3
        refine lv_aload_n hx hb dX10_readsItem_77 rfl (lv_at hl 1 rfl) ?_
        refine gf_X10_13 C hW (by decide) rfl dX10_readsItem_78 ?_
        refine lv_bipush (v := 7) hx hb dX10_readsItem_81 (by decide) ?_
        refine g_ald (v := σ 98 7) 7 C hW (by decide) rfl rfl (by decide) (by decide) rfl dX10_readsItem_83 ?_
        refine lv_istore_n (lv' := [(3, .int (σ 98 7)), (2, .int ((σ 98 5) - 1)), (0, .ref (gAd G 96)), (1, .int a0)]) hx hb dX10_readsItem_84 rfl hl (by decide) rfl (fun ls hl => ?_)
        refine lv_aload_n hx hb dX10_readsItem_85 rfl (lv_at hl 2 rfl) ?_
        refine gf_X10_19 C hW (by decide) rfl dX10_readsItem_86 ?_
        refine lv_iload_n hx hb dX10_readsItem_89 rfl (lv_at hl 0 rfl) ?_
        refine lv_aload_n hx hb dX10_readsItem_90 rfl (lv_at hl 2 rfl) ?_
        refine lv_iconst (v := 0) hx hb dX10_readsItem_91 (by decide) ?_
        refine lv_aload_n hx hb dX10_readsItem_92 rfl (lv_at hl 2 rfl) ?_
        refine gf_X10_13 C hW (by decide) rfl dX10_readsItem_93 ?_
        refine lv_bipush (v := 6) hx hb dX10_readsItem_96 (by decide) ?_
        refine g_ald (v := σ 98 6) 6 C hW (by decide) rfl rfl (by decide) (by decide) rfl dX10_readsItem_98 ?_
        refine lv_iconst (v := 1) hx hb dX10_readsItem_99 (by decide) ?_
        refine lv_isub hx hb dX10_readsItem_100 ?_
        refine g_callvI (r := mNumR σ 0 ((σ 98 6) - 1)) (σ' := mNumS σ t 0 ((σ 98 6) - 1)) (rest := [.int (σ 98 7), .ref (gAd G 100)]) (As := [.int 0, .int ((σ 98 6) - 1)]) C hW kv_X10_110 96 (by decide) (gL_10 rfl) rfl (m_number l G σ τ 0 ((σ 98 6) - 1) t hp) ⟨Nat.le_of_ble_eq_true rfl, Nat.le_of_ble_eq_true rfl⟩ ⟨Nat.le_refl _, Nat.le_refl _⟩ rfl hl.1 rfl (Nat.le_of_ble_eq_true rfl) dX10_readsItem_101 (fun H locs hW => ?_)
        refine g_ast (q7 σ) C hW (by decide) rfl h7 (show (q7 σ) < 8 by omega) (by decide) dX10_readsItem_104 (fun H locs hW => ?_)
        refine lv_aload_n hx hb dX10_readsItem_105 rfl (lv_at hl 2 rfl) ?_
        refine gf_X10_22 C hW (by decide) rfl dX10_readsItem_106 ?_
        refine lv_bipush (v := 8) hx hb dX10_readsItem_109 (by decide) ?_
        refine lv_iload_n hx hb dX10_readsItem_111 rfl (lv_at hl 0 rfl) ?_
        refine lv_iadd hx hb dX10_readsItem_112 ?_
        refine lv_aload_n hx hb dX10_readsItem_113 rfl (lv_at hl 2 rfl) ?_
        refine lv_iconst (v := 0) hx hb dX10_readsItem_114 (by decide) ?_
        refine lv_iload_n hx hb dX10_readsItem_115 rfl (lv_at hl 1 rfl) ?_
        refine g_callvI (r := mNumR (gu (mNumS σ t 0 ((σ 98 6) - 1)) 100 (q7 σ) (mNumR σ 0 ((σ 98 6) - 1))) 0 ((σ 98 5) - 1)) (σ' := mNumS (gu (mNumS σ t 0 ((σ 98 6) - 1)) 100 (q7 σ) (mNumR σ 0 ((σ 98 6) - 1))) t 0 ((σ 98 5) - 1)) (rest := [.int (8 + (σ 98 7)), .ref (gAd G 101)]) (As := [.int 0, .int ((σ 98 5) - 1)]) C hW kv_X10_110 96 (by decide) (gL_10 rfl) rfl (m_number l G (gu (mNumS σ t 0 ((σ 98 6) - 1)) 100 (q7 σ) (mNumR σ 0 ((σ 98 6) - 1))) τ 0 ((σ 98 5) - 1) t (pOk_gu (fun z => absurd z.1 (by decide)) (pOk_num hp))) ⟨Nat.le_of_ble_eq_true rfl, Nat.le_of_ble_eq_true rfl⟩ ⟨Nat.le_refl _, Nat.le_refl _⟩ rfl hl.1 rfl (Nat.le_of_ble_eq_true rfl) dX10_readsItem_116 (fun H locs hW => ?_)
        refine g_ast (8 + (q7 σ)) C hW (by decide) rfl (gadd (rfl : 8 = nI 8) h7) (show (8 + (q7 σ)) < 16 by omega) (by decide) dX10_readsItem_119 (fun H locs hW => ?_)
        refine lv_aload_n hx hb dX10_readsItem_120 rfl (lv_at hl 2 rfl) ?_
        refine gf_X10_25 C hW (by decide) rfl dX10_readsItem_121 ?_
        refine lv_bipush (v := 8) hx hb dX10_readsItem_124 (by decide) ?_
        refine lv_iload_n hx hb dX10_readsItem_126 rfl (lv_at hl 0 rfl) ?_
        refine lv_iadd hx hb dX10_readsItem_127 ?_
        refine lv_aload_n hx hb dX10_readsItem_128 rfl (lv_at hl 2 rfl) ?_
        refine lv_iconst (v := 0) hx hb dX10_readsItem_129 (by decide) ?_
        refine lv_sipush (v := 239) hx hb dX10_readsItem_130 (by decide) ?_
        refine g_callvI (r := mNumR (gu (mNumS (gu (mNumS σ t 0 ((σ 98 6) - 1)) 100 (q7 σ) (mNumR σ 0 ((σ 98 6) - 1))) t 0 ((σ 98 5) - 1)) 101 (8 + (q7 σ)) (mNumR (gu (mNumS σ t 0 ((σ 98 6) - 1)) 100 (q7 σ) (mNumR σ 0 ((σ 98 6) - 1))) 0 ((σ 98 5) - 1))) 0 239) (σ' := mNumS (gu (mNumS (gu (mNumS σ t 0 ((σ 98 6) - 1)) 100 (q7 σ) (mNumR σ 0 ((σ 98 6) - 1))) t 0 ((σ 98 5) - 1)) 101 (8 + (q7 σ)) (mNumR (gu (mNumS σ t 0 ((σ 98 6) - 1)) 100 (q7 σ) (mNumR σ 0 ((σ 98 6) - 1))) 0 ((σ 98 5) - 1))) t 0 239) (rest := [.int (8 + (σ 98 7)), .ref (gAd G 102)]) (As := [.int 0, .int 239]) C hW kv_X10_110 96 (by decide) (gL_10 rfl) rfl (m_number l G (gu (mNumS (gu (mNumS σ t 0 ((σ 98 6) - 1)) 100 (q7 σ) (mNumR σ 0 ((σ 98 6) - 1))) t 0 ((σ 98 5) - 1)) 101 (8 + (q7 σ)) (mNumR (gu (mNumS σ t 0 ((σ 98 6) - 1)) 100 (q7 σ) (mNumR σ 0 ((σ 98 6) - 1))) 0 ((σ 98 5) - 1))) τ 0 239 t (pOk_gu (fun z => absurd z.1 (by decide)) (pOk_num (pOk_gu (fun z => absurd z.1 (by decide)) (pOk_num hp))))) ⟨Nat.le_of_ble_eq_true rfl, Nat.le_of_ble_eq_true rfl⟩ ⟨Nat.le_refl _, Nat.le_refl _⟩ rfl hl.1 rfl (Nat.le_of_ble_eq_true rfl) dX10_readsItem_133 (fun H locs hW => ?_)
        refine g_ast (8 + (q7 σ)) C hW (by decide) rfl (gadd (rfl : 8 = nI 8) h7) (show (8 + (q7 σ)) < 16 by omega) (by decide) dX10_readsItem_136 (fun H locs hW => ?_)
        refine lv_aload_n hx hb dX10_readsItem_137 rfl (lv_at hl 2 rfl) ?_
        refine gf_X10_28 C hW (by decide) rfl dX10_readsItem_138 ?_
        refine lv_bipush (v := 8) hx hb dX10_readsItem_141 (by decide) ?_
        refine lv_iload_n hx hb dX10_readsItem_143 rfl (lv_at hl 0 rfl) ?_
        refine lv_iadd hx hb dX10_readsItem_144 ?_
        refine lv_aload_n hx hb dX10_readsItem_145 rfl (lv_at hl 2 rfl) ?_
        refine lv_iconst (v := 1) hx hb dX10_readsItem_146 (by decide) ?_
        refine lv_bipush (v := 60) hx hb dX10_readsItem_147 (by decide) ?_
        refine g_callvI (r := mNumR (gu (mNumS (gu (mNumS (gu (mNumS σ t 0 ((σ 98 6) - 1)) 100 (q7 σ) (mNumR σ 0 ((σ 98 6) - 1))) t 0 ((σ 98 5) - 1)) 101 (8 + (q7 σ)) (mNumR (gu (mNumS σ t 0 ((σ 98 6) - 1)) 100 (q7 σ) (mNumR σ 0 ((σ 98 6) - 1))) 0 ((σ 98 5) - 1))) t 0 239) 102 (8 + (q7 σ)) (mNumR (gu (mNumS (gu (mNumS σ t 0 ((σ 98 6) - 1)) 100 (q7 σ) (mNumR σ 0 ((σ 98 6) - 1))) t 0 ((σ 98 5) - 1)) 101 (8 + (q7 σ)) (mNumR (gu (mNumS σ t 0 ((σ 98 6) - 1)) 100 (q7 σ) (mNumR σ 0 ((σ 98 6) - 1))) 0 ((σ 98 5) - 1))) 0 239)) 1 60) (σ' := mNumS (gu (mNumS (gu (mNumS (gu (mNumS σ t 0 ((σ 98 6) - 1)) 100 (q7 σ) (mNumR σ 0 ((σ 98 6) - 1))) t 0 ((σ 98 5) - 1)) 101 (8 + (q7 σ)) (mNumR (gu (mNumS σ t 0 ((σ 98 6) - 1)) 100 (q7 σ) (mNumR σ 0 ((σ 98 6) - 1))) 0 ((σ 98 5) - 1))) t 0 239) 102 (8 + (q7 σ)) (mNumR (gu (mNumS (gu (mNumS σ t 0 ((σ 98 6) - 1)) 100 (q7 σ) (mNumR σ 0 ((σ 98 6) - 1))) t 0 ((σ 98 5) - 1)) 101 (8 + (q7 σ)) (mNumR (gu (mNumS σ t 0 ((σ 98 6) - 1)) 100 (q7 σ) (mNumR σ 0 ((σ 98 6) - 1))) 0 ((σ 98 5) - 1))) 0 239)) t 1 60) (rest := [.int (8 + (σ 98 7)), .ref (gAd G 103)]) (As := [.int 1, .int 60]) C hW kv_X10_110 96 (by decide) (gL_10 rfl) rfl (m_number l G (gu (mNumS (gu (mNumS (gu (mNumS σ t 0 ((σ 98 6) - 1)) 100 (q7 σ) (mNumR σ 0 ((σ 98 6) - 1))) t 0 ((σ 98 5) - 1)) 101 (8 + (q7 σ)) (mNumR (gu (mNumS σ t 0 ((σ 98 6) - 1)) 100 (q7 σ) (mNumR σ 0 ((σ 98 6) - 1))) 0 ((σ 98 5) - 1))) t 0 239) 102 (8 + (q7 σ)) (mNumR (gu (mNumS (gu (mNumS σ t 0 ((σ 98 6) - 1)) 100 (q7 σ) (mNumR σ 0 ((σ 98 6) - 1))) t 0 ((σ 98 5) - 1)) 101 (8 + (q7 σ)) (mNumR (gu (mNumS σ t 0 ((σ 98 6) - 1)) 100 (q7 σ) (mNumR σ 0 ((σ 98 6) - 1))) 0 ((σ 98 5) - 1))) 0 239)) τ 1 60 t (pOk_gu (fun z => absurd z.1 (by decide)) (pOk_num (pOk_gu (fun z => absurd z.1 (by decide)) (pOk_num (pOk_gu (fun z => absurd z.1 (by decide)) (pOk_num hp))))))) ⟨Nat.le_of_ble_eq_true rfl, Nat.le_of_ble_eq_true rfl⟩ ⟨Nat.le_refl _, Nat.le_refl _⟩ rfl hl.1 rfl (Nat.le_of_ble_eq_true rfl) dX10_readsItem_149 (fun H locs hW => ?_)
        refine g_ast (8 + (q7 σ)) C hW (by decide) rfl (gadd (rfl : 8 = nI 8) h7) (show (8 + (q7 σ)) < 16 by omega) (by decide) dX10_readsItem_152 (fun H locs hW => ?_)
        refine lv_aload_n hx hb dX10_readsItem_153 rfl (lv_at hl 2 rfl) ?_
        refine gf_X10_13 C hW (by decide) rfl dX10_readsItem_154 ?_
        refine lv_bipush (v := 7) hx hb dX10_readsItem_157 (by decide) ?_
        refine lv_dup2_11 hx hb dX10_readsItem_159 rfl rfl ?_
        refine g_ald (v := (mNumS (gu (mNumS (gu (mNumS (gu (mNumS σ t 0 ((σ 98 6) - 1)) 100 (q7 σ) (mNumR σ 0 ((σ 98 6) - 1))) t 0 ((σ 98 5) - 1)) 101 (8 + (q7 σ)) (mNumR (gu (mNumS σ t 0 ((σ 98 6) - 1)) 100 (q7 σ) (mNumR σ 0 ((σ 98 6) - 1))) 0 ((σ 98 5) - 1))) t 0 239) 102 (8 + (q7 σ)) (mNumR (gu (mNumS (gu (mNumS σ t 0 ((σ 98 6) - 1)) 100 (q7 σ) (mNumR σ 0 ((σ 98 6) - 1))) t 0 ((σ 98 5) - 1)) 101 (8 + (q7 σ)) (mNumR (gu (mNumS σ t 0 ((σ 98 6) - 1)) 100 (q7 σ) (mNumR σ 0 ((σ 98 6) - 1))) 0 ((σ 98 5) - 1))) 0 239)) t 1 60) 98 7) 7 C hW (by decide) rfl rfl (by decide) (by decide) rfl dX10_readsItem_160 ?_
        refine lv_iconst (v := 1) hx hb dX10_readsItem_161 (by decide) ?_
        refine lv_iadd hx hb dX10_readsItem_162 ?_
        refine g_ast 7 C hW (by decide) rfl rfl (by decide) (by decide) dX10_readsItem_163 (fun H locs hW => ?_)
        refine lv_goto (tgt := 224) hx hb dX10_readsItem_164 (by decide) ?_
        exact g_vret C hr hlk hW dX10_readsItem_224 (by rw [mItemS, if_neg c_1, if_neg c_2, if_pos c_3]; rfl) (rfl)
    · skip
      have h6c := h6b c_2
      refine lv_aload_n hx hb dX10_readsItem_37 rfl (lv_at hl 1 rfl) ?_
      refine gf_X10_16 C hW (by decide) rfl dX10_readsItem_38 ?_
      refine lv_iconst (v := 5) hx hb dX10_readsItem_41 (by decide) ?_
      refine lv_aload_n hx hb dX10_readsItem_42 rfl (lv_at hl 1 rfl) ?_
      refine gf_X10_13 C hW (by decide) rfl dX10_readsItem_43 ?_
      refine lv_bipush (v := 6) hx hb dX10_readsItem_46 (by decide) ?_
      refine g_ald (v := σ 98 6) 6 C hW (by decide) rfl rfl (by decide) (by decide) rfl dX10_readsItem_48 ?_
      refine lv_iadd hx hb dX10_readsItem_49 ?_
      refine lv_aload_n hx hb dX10_readsItem_50 rfl (lv_at hl 1 rfl) ?_
      refine lv_iconst (v := 0) hx hb dX10_readsItem_51 (by decide) ?_
      refine lv_iload_n hx hb dX10_readsItem_52 rfl (lv_at hl 0 rfl) ?_
      refine g_callvI (r := mNumR σ 0 ((σ 98 5) - 1)) (σ' := mNumS σ t 0 ((σ 98 5) - 1)) (rest := [.int (5 + (σ 98 6)), .ref (gAd G 99)]) (As := [.int 0, .int ((σ 98 5) - 1)]) C hW kv_X10_110 96 (by decide) (gL_10 rfl) rfl (m_number l G σ τ 0 ((σ 98 5) - 1) t hp) ⟨Nat.le_of_ble_eq_true rfl, Nat.le_of_ble_eq_true rfl⟩ ⟨Nat.le_refl _, Nat.le_refl _⟩ rfl hl.1 rfl (Nat.le_of_ble_eq_true rfl) dX10_readsItem_53 (fun H locs hW => ?_)
      refine g_ast (5 + (q6 σ)) C hW (by decide) rfl (gadd (rfl : 5 = nI 5) h6) (show (5 + (q6 σ)) < 10 by omega) (by decide) dX10_readsItem_56 (fun H locs hW => ?_)
      refine lv_aload_n hx hb dX10_readsItem_57 rfl (lv_at hl 1 rfl) ?_
      refine gf_X10_13 C hW (by decide) rfl dX10_readsItem_58 ?_
      refine lv_bipush (v := 6) hx hb dX10_readsItem_61 (by decide) ?_
      refine lv_dup2_11 hx hb dX10_readsItem_63 rfl rfl ?_
      refine g_ald (v := (mNumS σ t 0 ((σ 98 5) - 1)) 98 6) 6 C hW (by decide) rfl rfl (by decide) (by decide) rfl dX10_readsItem_64 ?_
      refine lv_iconst (v := 1) hx hb dX10_readsItem_65 (by decide) ?_
      refine lv_iadd hx hb dX10_readsItem_66 ?_
      refine g_ast 6 C hW (by decide) rfl rfl (by decide) (by decide) dX10_readsItem_67 (fun H locs hW => ?_)
      refine lv_goto (tgt := 224) hx hb dX10_readsItem_68 (by decide) ?_
      exact g_vret C hr hlk hW dX10_readsItem_224 (by rw [mItemS, if_neg c_1, if_pos c_2]; rfl) (rfl)
  · skip
    refine lv_aload_n hx hb dX10_readsItem_15 rfl (lv_at hl 1 rfl) ?_
    refine gf_X10_13 C hW (by decide) rfl dX10_readsItem_16 ?_
    refine lv_iconst (v := 5) hx hb dX10_readsItem_19 (by decide) ?_
    refine lv_aload_n hx hb dX10_readsItem_20 rfl (lv_at hl 1 rfl) ?_
    refine lv_iconst (v := 2) hx hb dX10_readsItem_21 (by decide) ?_
    refine lv_bipush (v := 6) hx hb dX10_readsItem_22 (by decide) ?_
    refine g_callvI (r := mNumR σ 2 6) (σ' := mNumS σ t 2 6) (rest := [.int 5, .ref (gAd G 98)]) (As := [.int 2, .int 6]) C hW kv_X10_110 96 (by decide) (gL_10 rfl) rfl (m_number l G σ τ 2 6 t hp) ⟨Nat.le_of_ble_eq_true rfl, Nat.le_of_ble_eq_true rfl⟩ ⟨Nat.le_refl _, Nat.le_refl _⟩ rfl hl.1 rfl (Nat.le_of_ble_eq_true rfl) dX10_readsItem_24 (fun H locs hW => ?_)
    refine g_ast 5 C hW (by decide) rfl rfl (by decide) (by decide) dX10_readsItem_27 (fun H locs hW => ?_)
    refine lv_goto (tgt := 224) hx hb dX10_readsItem_28 (by decide) ?_
    exact g_vret C hr hlk hW dX10_readsItem_224 (by rw [mItemS, if_pos c_1]; rfl) (rfl)
set_option maxHeartbeats 4000000 in
set_option maxRecDepth 100000 in
theorem m_settles (l : Launch) (G : gG) (σ : gSt) (τ : Nat → Int64) : gV l yX10_settles cX10_settles 2 (none : Option Jvm.ClassFile.FieldType) 0 0 G [.ref (gAd G 96)] σ τ (mSettle σ) τ := by
  refine gMet_of (by decide) (Nat.le_of_ble_eq_true rfl) ?_
  intro p e s m args below meth c C hr hlk ls hl hW
  have hx := C.1
  have hb := C.2.1
  have hl : lv_has ls 2 [(0, .ref (gAd G 96))] := hl
  refine lv_iconst (v := 0) hx hb dX10_settles_0 (by decide) ?_
  refine lv_istore_n (lv' := [(1, .int 0), (0, .ref (gAd G 96))]) hx hb dX10_settles_1 rfl hl (by decide) rfl (fun ls hl => ?_)
  have L2 : ∀ (n : Nat) (k : Nat) (H : Heap) (locs : List Loc) (ls : Array Slot), n + k = 5 → gW G s (gcp 98 98 0 5 σ k) τ H locs → lv_has ls 2 [(1, .int (nI k)), (0, .ref (gAd G 96))] → W p l e (gRm 0 0) s m args below meth c H locs 0 0 (MQ below (gQv G (mSettle σ) τ) args s 0 0 (gA G)) (F0 m 2 ls []) := by
    intro n
    induction n with
    | zero =>
      intro k H locs ls hm hW hl
      refine lv_iload_n hx hb dX10_settles_2 rfl (lv_at hl 0 rfl) ?_
      refine lv_iconst (v := 5) hx hb dX10_settles_3 (by decide) ?_
      refine lv_icmp_ge (tgt := 27) hx hb dX10_settles_4 (by decide) (fun _ => ?_) (fun zz => absurd (show nI 5 ≤ nI k from nI_le (by omega) (by omega)) zz)
      have hk : k = 5 := by omega
      subst hk
      refine lv_iconst (v := 0) hx hb dX10_settles_27 (by decide) ?_
      refine lv_istore_n (lv' := [(1, .int 0), (0, .ref (gAd G 96))]) hx hb dX10_settles_28 rfl hl (by decide) rfl (fun ls hl => ?_)
      have L29 : ∀ (n : Nat) (k : Nat) (H : Heap) (locs : List Loc) (ls : Array Slot), n + k = 25 → gW G s (gfill 104 (gcp 98 98 0 5 σ 5) k) τ H locs → lv_has ls 2 [(1, .int (nI k)), (0, .ref (gAd G 96))] → W p l e (gRm 0 0) s m args below meth c H locs 0 0 (MQ below (gQv G (mSettle σ) τ) args s 0 0 (gA G)) (F0 m 29 ls []) := by
        intro n
        induction n with
        | zero =>
          intro k H locs ls hm hW hl
          refine lv_iload_n hx hb dX10_settles_29 rfl (lv_at hl 0 rfl) ?_
          refine lv_bipush (v := 25) hx hb dX10_settles_30 (by decide) ?_
          refine lv_icmp_ge (tgt := 48) hx hb dX10_settles_32 (by decide) (fun _ => ?_) (fun zz => absurd (show nI 25 ≤ nI k from nI_le (by omega) (by omega)) zz)
          have hk : k = 25 := by omega
          subst hk
          refine lv_iconst (v := 0) hx hb dX10_settles_48 (by decide) ?_
          refine lv_istore_n (lv' := [(1, .int 0), (0, .ref (gAd G 96))]) hx hb dX10_settles_49 rfl hl (by decide) rfl (fun ls hl => ?_)
          have L50 : ∀ (n : Nat) (k : Nat) (H : Heap) (locs : List Loc) (ls : Array Slot), n + k = 5 → gW G s (mSetP (gfill 104 (gcp 98 98 0 5 σ 5) 25) k) τ H locs → lv_has ls 2 [(1, .int (nI k)), (0, .ref (gAd G 96))] → W p l e (gRm 0 0) s m args below meth c H locs 0 0 (MQ below (gQv G (mSettle σ) τ) args s 0 0 (gA G)) (F0 m 50 ls []) := by
            intro n
            induction n with
            | zero =>
              intro k H locs ls hm hW hl
              refine lv_iload_n hx hb dX10_settles_50 rfl (lv_at hl 0 rfl) ?_
              refine lv_iconst (v := 5) hx hb dX10_settles_51 (by decide) ?_
              refine lv_icmp_ge (tgt := 103) hx hb dX10_settles_52 (by decide) (fun _ => ?_) (fun zz => absurd (show nI 5 ≤ nI k from nI_le (by omega) (by omega)) zz)
              have hk : k = 5 := by omega
              subst hk
              refine lv_iconst (v := 0) hx hb dX10_settles_103 (by decide) ?_
              refine lv_istore_n (lv' := [(1, .int 0), (0, .ref (gAd G 96))]) hx hb dX10_settles_104 rfl hl (by decide) rfl (fun ls hl => ?_)
              have L105 : ∀ (n : Nat) (k : Nat) (H : Heap) (locs : List Loc) (ls : Array Slot), n + k = 8 → gW G s (mSetD (mSetP (gfill 104 (gcp 98 98 0 5 σ 5) 25) 5) k) τ H locs → lv_has ls 2 [(1, .int (nI k)), (0, .ref (gAd G 96))] → W p l e (gRm 0 0) s m args below meth c H locs 0 0 (MQ below (gQv G (mSettle σ) τ) args s 0 0 (gA G)) (F0 m 105 ls []) := by
                intro n
                induction n with
                | zero =>
                  intro k H locs ls hm hW hl
                  refine lv_iload_n hx hb dX10_settles_105 rfl (lv_at hl 0 rfl) ?_
                  refine lv_bipush (v := 8) hx hb dX10_settles_106 (by decide) ?_
                  refine lv_icmp_ge (tgt := 191) hx hb dX10_settles_108 (by decide) (fun _ => ?_) (fun zz => absurd (show nI 8 ≤ nI k from nI_le (by omega) (by omega)) zz)
                  have hk : k = 8 := by omega
                  subst hk
                  refine lv_aload_n hx hb dX10_settles_191 rfl (lv_at hl 1 rfl) ?_
                  refine lv_iconst (v := 0) hx hb dX10_settles_192 (by decide) ?_
                  refine gp_X10_70 C hW (by decide) rfl dX10_settles_193 (fun H locs hW => ?_)
                  refine lv_aload_n hx hb dX10_settles_196 rfl (lv_at hl 1 rfl) ?_
                  refine lv_iconst (v := 0) hx hb dX10_settles_197 (by decide) ?_
                  refine gp_X10_121 C hW (by decide) rfl dX10_settles_198 (fun H locs hW => ?_)
                  refine lv_aload_n hx hb dX10_settles_201 rfl (lv_at hl 1 rfl) ?_
                  refine lv_iconst (v := 0) hx hb dX10_settles_202 (by decide) ?_
                  refine gp_X10_124 C hW (by decide) rfl dX10_settles_203 (fun H locs hW => ?_)
                  refine lv_aload_n hx hb dX10_settles_206 rfl (lv_at hl 1 rfl) ?_
                  refine gf_X10_37 C hW (by decide) rfl dX10_settles_207 ?_
                  refine lv_iconst (v := 0) hx hb dX10_settles_210 (by decide) ?_
                  refine lv_iconst (v := 0) hx hb dX10_settles_211 (by decide) ?_
                  refine g_zast 0 C hW (by decide) rfl rfl (by decide) (by decide) rfl dX10_settles_212 (fun H locs hW => ?_)
                  refine lv_aload_n hx hb dX10_settles_213 rfl (lv_at hl 1 rfl) ?_
                  refine gf_X10_37 C hW (by decide) rfl dX10_settles_214 ?_
                  refine lv_iconst (v := 1) hx hb dX10_settles_217 (by decide) ?_
                  refine lv_iconst (v := 0) hx hb dX10_settles_218 (by decide) ?_
                  refine g_zast 1 C hW (by decide) rfl rfl (by decide) (by decide) rfl dX10_settles_219 (fun H locs hW => ?_)
                  exact g_vret C hr hlk hW dX10_settles_220 (rfl) (rfl)
                | succ n ih105 =>
                  intro k H locs ls hm hW hl
                  refine lv_iload_n hx hb dX10_settles_105 rfl (lv_at hl 0 rfl) ?_
                  refine lv_bipush (v := 8) hx hb dX10_settles_106 (by decide) ?_
                  refine lv_icmp_ge (tgt := 191) hx hb dX10_settles_108 (by decide) (fun zz => absurd zz (show ¬ nI 8 ≤ nI k from nI_ge (by omega) (by omega))) (fun _ => ?_)
                  refine lv_aload_n hx hb dX10_settles_111 rfl (lv_at hl 1 rfl) ?_
                  refine gf_X10_22 C hW (by decide) rfl dX10_settles_112 ?_
                  refine lv_iload_n hx hb dX10_settles_115 rfl (lv_at hl 0 rfl) ?_
                  refine lv_aload_n hx hb dX10_settles_116 rfl (lv_at hl 1 rfl) ?_
                  refine gf_X10_22 C hW (by decide) rfl dX10_settles_117 ?_
                  refine lv_bipush (v := 8) hx hb dX10_settles_120 (by decide) ?_
                  refine lv_iload_n hx hb dX10_settles_122 rfl (lv_at hl 0 rfl) ?_
                  refine lv_iadd hx hb dX10_settles_123 ?_
                  refine g_ald (v := (mSetD (mSetP (gfill 104 (gcp 98 98 0 5 σ 5) 25) 5) k) 101 (8 + k)) (8 + k) C hW (by decide) rfl (gadd (rfl : 8 = nI 8) (rfl : nI k = nI k)) (show (8 + k) < 16 by omega) (by decide) rfl dX10_settles_124 ?_
                  refine g_ast k C hW (by decide) rfl rfl (show k < 16 by omega) (by decide) dX10_settles_125 (fun H locs hW => ?_)
                  refine lv_aload_n hx hb dX10_settles_126 rfl (lv_at hl 1 rfl) ?_
                  refine gf_X10_25 C hW (by decide) rfl dX10_settles_127 ?_
                  refine lv_iload_n hx hb dX10_settles_130 rfl (lv_at hl 0 rfl) ?_
                  refine lv_aload_n hx hb dX10_settles_131 rfl (lv_at hl 1 rfl) ?_
                  refine gf_X10_25 C hW (by decide) rfl dX10_settles_132 ?_
                  refine lv_bipush (v := 8) hx hb dX10_settles_135 (by decide) ?_
                  refine lv_iload_n hx hb dX10_settles_137 rfl (lv_at hl 0 rfl) ?_
                  refine lv_iadd hx hb dX10_settles_138 ?_
                  refine g_ald (v := (mSetD (mSetP (gfill 104 (gcp 98 98 0 5 σ 5) 25) 5) k) 102 (8 + k)) (8 + k) C hW (by decide) rfl (gadd (rfl : 8 = nI 8) (rfl : nI k = nI k)) (show (8 + k) < 16 by omega) (by decide) rfl dX10_settles_139 ?_
                  refine g_ast k C hW (by decide) rfl rfl (show k < 16 by omega) (by decide) dX10_settles_140 (fun H locs hW => ?_)
                  refine lv_aload_n hx hb dX10_settles_141 rfl (lv_at hl 1 rfl) ?_
                  refine gf_X10_28 C hW (by decide) rfl dX10_settles_142 ?_
                  refine lv_iload_n hx hb dX10_settles_145 rfl (lv_at hl 0 rfl) ?_
                  refine lv_aload_n hx hb dX10_settles_146 rfl (lv_at hl 1 rfl) ?_
                  refine gf_X10_28 C hW (by decide) rfl dX10_settles_147 ?_
                  refine lv_bipush (v := 8) hx hb dX10_settles_150 (by decide) ?_
                  refine lv_iload_n hx hb dX10_settles_152 rfl (lv_at hl 0 rfl) ?_
                  refine lv_iadd hx hb dX10_settles_153 ?_
                  refine g_ald (v := (mSetD (mSetP (gfill 104 (gcp 98 98 0 5 σ 5) 25) 5) k) 103 (8 + k)) (8 + k) C hW (by decide) rfl (gadd (rfl : 8 = nI 8) (rfl : nI k = nI k)) (show (8 + k) < 16 by omega) (by decide) rfl dX10_settles_154 ?_
                  refine g_ast k C hW (by decide) rfl rfl (show k < 16 by omega) (by decide) dX10_settles_155 (fun H locs hW => ?_)
                  refine lv_aload_n hx hb dX10_settles_156 rfl (lv_at hl 1 rfl) ?_
                  refine gf_X10_31 C hW (by decide) rfl dX10_settles_157 ?_
                  refine lv_bipush (v := 17) hx hb dX10_settles_160 (by decide) ?_
                  refine lv_iload_n hx hb dX10_settles_162 rfl (lv_at hl 0 rfl) ?_
                  refine lv_iadd hx hb dX10_settles_163 ?_
                  have K184 : ∀ (z : Int32), z = (if mSetD (mSetP (gfill 104 (gcp 98 98 0 5 σ 5) 25) 5) k 98 2 ≤ nI k then 0 else mSetD (mSetP (gfill 104 (gcp 98 98 0 5 σ 5) 25) 5) k 100 k) → ∀ (H : Heap) (locs : List Loc) (ls : Array Slot), gW G s (gu (gu (gu (mSetD (mSetP (gfill 104 (gcp 98 98 0 5 σ 5) 25) 5) k) 101 k ((mSetD (mSetP (gfill 104 (gcp 98 98 0 5 σ 5) 25) 5) k) 101 (8 + k))) 102 k ((mSetD (mSetP (gfill 104 (gcp 98 98 0 5 σ 5) 25) 5) k) 102 (8 + k))) 103 k ((mSetD (mSetP (gfill 104 (gcp 98 98 0 5 σ 5) 25) 5) k) 103 (8 + k))) τ H locs → lv_has ls 2 [(1, .int (nI k)), (0, .ref (gAd G 96))] → W p l e (gRm 0 0) s m args below meth c H locs 0 0 (MQ below (gQv G (mSettle σ) τ) args s 0 0 (gA G)) (F0 m 184 ls [.int z, .int (17 + (nI k)), .ref (gAd G 104)]) := by
                    intro z hz H locs ls hW hl
                    refine g_ast (17 + k) C hW (by decide) rfl (gadd (rfl : 17 = nI 17) (rfl : nI k = nI k)) (show (17 + k) < 25 by omega) (by decide) dX10_settles_184 (fun H locs hW => ?_)
                    refine lv_iinc (v := nI (k + 1)) (lv' := [(1, .int (nI (k + 1))), (0, .ref (gAd G 96))]) hx hb dX10_settles_185 hl (k := 0) rfl (nI_1 _) (by decide) rfl (fun ls hl => ?_)
                    refine lv_goto (tgt := 105) hx hb dX10_settles_188 (by decide) ?_
                    exact ih105 (k + 1) _ _ _ (by omega)  (by rw [hz] at hW; rw [mSetD, mSetD1]; exact hW) (lv_sub hl [0, 1] rfl)
                  refine lv_iload_n hx hb dX10_settles_164 rfl (lv_at hl 0 rfl) ?_
                  refine lv_aload_n hx hb dX10_settles_165 rfl (lv_at hl 1 rfl) ?_
                  refine gf_X10_13 C hW (by decide) rfl dX10_settles_166 ?_
                  refine lv_iconst (v := 2) hx hb dX10_settles_169 (by decide) ?_
                  refine g_ald (v := (mSetD (mSetP (gfill 104 (gcp 98 98 0 5 σ 5) 25) 5) k) 98 2) 2 C hW (by decide) rfl rfl (by decide) (by decide) rfl dX10_settles_170 ?_
                  refine lv_icmp_ge (tgt := 183) hx hb dX10_settles_171 (by decide) (fun c_1 => ?_) (fun c_1 => ?_)
                  · skip
                    refine lv_iconst (v := 0) hx hb dX10_settles_183 (by decide) ?_
                    exact K184 0 (by simp [bI, c_1]) _ _ _ hW (lv_sub hl [0, 1] rfl)
                  · skip
                    refine lv_aload_n hx hb dX10_settles_174 rfl (lv_at hl 1 rfl) ?_
                    refine gf_X10_19 C hW (by decide) rfl dX10_settles_175 ?_
                    refine lv_iload_n hx hb dX10_settles_178 rfl (lv_at hl 0 rfl) ?_
                    refine g_ald (v := (mSetD (mSetP (gfill 104 (gcp 98 98 0 5 σ 5) 25) 5) k) 100 k) k C hW (by decide) rfl rfl (show k < 8 by omega) (by decide) rfl dX10_settles_179 ?_
                    refine lv_goto (tgt := 184) hx hb dX10_settles_180 (by decide) ?_
                    exact K184 ((mSetD (mSetP (gfill 104 (gcp 98 98 0 5 σ 5) 25) 5) k) 100 k) (by simp [bI, c_1]) _ _ _ hW (lv_sub hl [0, 1] rfl)
              exact L105 8 0 _ _ _ (by omega)  hW (lv_sub hl [0, 1] rfl)
            | succ n ih50 =>
              intro k H locs ls hm hW hl
              refine lv_iload_n hx hb dX10_settles_50 rfl (lv_at hl 0 rfl) ?_
              refine lv_iconst (v := 5) hx hb dX10_settles_51 (by decide) ?_
              refine lv_icmp_ge (tgt := 103) hx hb dX10_settles_52 (by decide) (fun zz => absurd zz (show ¬ nI 5 ≤ nI k from nI_ge (by omega) (by omega))) (fun _ => ?_)
              refine lv_aload_n hx hb dX10_settles_55 rfl (lv_at hl 1 rfl) ?_
              refine gf_X10_16 C hW (by decide) rfl dX10_settles_56 ?_
              refine lv_iload_n hx hb dX10_settles_59 rfl (lv_at hl 0 rfl) ?_
              refine lv_aload_n hx hb dX10_settles_60 rfl (lv_at hl 1 rfl) ?_
              refine gf_X10_16 C hW (by decide) rfl dX10_settles_61 ?_
              refine lv_iconst (v := 5) hx hb dX10_settles_64 (by decide) ?_
              refine lv_iload_n hx hb dX10_settles_65 rfl (lv_at hl 0 rfl) ?_
              refine lv_iadd hx hb dX10_settles_66 ?_
              refine g_ald (v := (mSetP (gfill 104 (gcp 98 98 0 5 σ 5) 25) k) 99 (5 + k)) (5 + k) C hW (by decide) rfl (gadd (rfl : 5 = nI 5) (rfl : nI k = nI k)) (show (5 + k) < 10 by omega) (by decide) rfl dX10_settles_67 ?_
              refine g_ast k C hW (by decide) rfl rfl (show k < 10 by omega) (by decide) dX10_settles_68 (fun H locs hW => ?_)
              refine lv_aload_n hx hb dX10_settles_69 rfl (lv_at hl 1 rfl) ?_
              refine gf_X10_31 C hW (by decide) rfl dX10_settles_70 ?_
              refine lv_iconst (v := 0) hx hb dX10_settles_73 (by decide) ?_
              refine lv_iload_n hx hb dX10_settles_74 rfl (lv_at hl 0 rfl) ?_
              refine lv_iadd hx hb dX10_settles_75 ?_
              have K96 : ∀ (z : Int32), z = (if mSetP (gfill 104 (gcp 98 98 0 5 σ 5) 25) k 98 1 ≤ nI k then 0 else gu (mSetP (gfill 104 (gcp 98 98 0 5 σ 5) 25) k) 99 k (mSetP (gfill 104 (gcp 98 98 0 5 σ 5) 25) k 99 (5 + k)) 99 k) → ∀ (H : Heap) (locs : List Loc) (ls : Array Slot), gW G s (gu (mSetP (gfill 104 (gcp 98 98 0 5 σ 5) 25) k) 99 k ((mSetP (gfill 104 (gcp 98 98 0 5 σ 5) 25) k) 99 (5 + k))) τ H locs → lv_has ls 2 [(1, .int (nI k)), (0, .ref (gAd G 96))] → W p l e (gRm 0 0) s m args below meth c H locs 0 0 (MQ below (gQv G (mSettle σ) τ) args s 0 0 (gA G)) (F0 m 96 ls [.int z, .int (0 + (nI k)), .ref (gAd G 104)]) := by
                intro z hz H locs ls hW hl
                refine g_ast k C hW (by decide) rfl (gz (rfl : nI k = nI k)) (show k < 25 by omega) (by decide) dX10_settles_96 (fun H locs hW => ?_)
                refine lv_iinc (v := nI (k + 1)) (lv' := [(1, .int (nI (k + 1))), (0, .ref (gAd G 96))]) hx hb dX10_settles_97 hl (k := 0) rfl (nI_1 _) (by decide) rfl (fun ls hl => ?_)
                refine lv_goto (tgt := 50) hx hb dX10_settles_100 (by decide) ?_
                exact ih50 (k + 1) _ _ _ (by omega)  (by rw [hz] at hW; rw [mSetP]; exact hW) (lv_sub hl [0, 1] rfl)
              refine lv_iload_n hx hb dX10_settles_76 rfl (lv_at hl 0 rfl) ?_
              refine lv_aload_n hx hb dX10_settles_77 rfl (lv_at hl 1 rfl) ?_
              refine gf_X10_13 C hW (by decide) rfl dX10_settles_78 ?_
              refine lv_iconst (v := 1) hx hb dX10_settles_81 (by decide) ?_
              refine g_ald (v := (mSetP (gfill 104 (gcp 98 98 0 5 σ 5) 25) k) 98 1) 1 C hW (by decide) rfl rfl (by decide) (by decide) rfl dX10_settles_82 ?_
              refine lv_icmp_ge (tgt := 95) hx hb dX10_settles_83 (by decide) (fun c_2 => ?_) (fun c_2 => ?_)
              · skip
                refine lv_iconst (v := 0) hx hb dX10_settles_95 (by decide) ?_
                exact K96 0 (by simp [bI, c_2]) _ _ _ hW (lv_sub hl [0, 1] rfl)
              · skip
                refine lv_aload_n hx hb dX10_settles_86 rfl (lv_at hl 1 rfl) ?_
                refine gf_X10_16 C hW (by decide) rfl dX10_settles_87 ?_
                refine lv_iload_n hx hb dX10_settles_90 rfl (lv_at hl 0 rfl) ?_
                refine g_ald (v := (gu (mSetP (gfill 104 (gcp 98 98 0 5 σ 5) 25) k) 99 k ((mSetP (gfill 104 (gcp 98 98 0 5 σ 5) 25) k) 99 (5 + k))) 99 k) k C hW (by decide) rfl rfl (show k < 10 by omega) (by decide) rfl dX10_settles_91 ?_
                refine lv_goto (tgt := 96) hx hb dX10_settles_92 (by decide) ?_
                exact K96 ((gu (mSetP (gfill 104 (gcp 98 98 0 5 σ 5) 25) k) 99 k ((mSetP (gfill 104 (gcp 98 98 0 5 σ 5) 25) k) 99 (5 + k))) 99 k) (by simp [bI, c_2]) _ _ _ hW (lv_sub hl [0, 1] rfl)
          exact L50 5 0 _ _ _ (by omega)  hW (lv_sub hl [0, 1] rfl)
        | succ n ih29 =>
          intro k H locs ls hm hW hl
          refine lv_iload_n hx hb dX10_settles_29 rfl (lv_at hl 0 rfl) ?_
          refine lv_bipush (v := 25) hx hb dX10_settles_30 (by decide) ?_
          refine lv_icmp_ge (tgt := 48) hx hb dX10_settles_32 (by decide) (fun zz => absurd zz (show ¬ nI 25 ≤ nI k from nI_ge (by omega) (by omega))) (fun _ => ?_)
          refine lv_aload_n hx hb dX10_settles_35 rfl (lv_at hl 1 rfl) ?_
          refine gf_X10_31 C hW (by decide) rfl dX10_settles_36 ?_
          refine lv_iload_n hx hb dX10_settles_39 rfl (lv_at hl 0 rfl) ?_
          refine lv_iconst (v := 0) hx hb dX10_settles_40 (by decide) ?_
          refine g_ast k C hW (by decide) rfl rfl (show k < 25 by omega) (by decide) dX10_settles_41 (fun H locs hW => ?_)
          refine lv_iinc (v := nI (k + 1)) (lv' := [(1, .int (nI (k + 1))), (0, .ref (gAd G 96))]) hx hb dX10_settles_42 hl (k := 0) rfl (nI_1 _) (by decide) rfl (fun ls hl => ?_)
          refine lv_goto (tgt := 29) hx hb dX10_settles_45 (by decide) ?_
          exact ih29 (k + 1) _ _ _ (by omega)  (by rw [gfill]; exact hW) (lv_sub hl [0, 1] rfl)
      exact L29 25 0 _ _ _ (by omega)  hW (lv_sub hl [0, 1] rfl)
    | succ n ih2 =>
      intro k H locs ls hm hW hl
      refine lv_iload_n hx hb dX10_settles_2 rfl (lv_at hl 0 rfl) ?_
      refine lv_iconst (v := 5) hx hb dX10_settles_3 (by decide) ?_
      refine lv_icmp_ge (tgt := 27) hx hb dX10_settles_4 (by decide) (fun zz => absurd zz (show ¬ nI 5 ≤ nI k from nI_ge (by omega) (by omega))) (fun _ => ?_)
      refine lv_aload_n hx hb dX10_settles_7 rfl (lv_at hl 1 rfl) ?_
      refine gf_X10_13 C hW (by decide) rfl dX10_settles_8 ?_
      refine lv_iload_n hx hb dX10_settles_11 rfl (lv_at hl 0 rfl) ?_
      refine lv_aload_n hx hb dX10_settles_12 rfl (lv_at hl 1 rfl) ?_
      refine gf_X10_13 C hW (by decide) rfl dX10_settles_13 ?_
      refine lv_iconst (v := 5) hx hb dX10_settles_16 (by decide) ?_
      refine lv_iload_n hx hb dX10_settles_17 rfl (lv_at hl 0 rfl) ?_
      refine lv_iadd hx hb dX10_settles_18 ?_
      refine g_ald (v := (gcp 98 98 0 5 σ k) 98 (5 + k)) (5 + k) C hW (by decide) rfl (gadd (rfl : 5 = nI 5) (rfl : nI k = nI k)) (show (5 + k) < 10 by omega) (by decide) rfl dX10_settles_19 ?_
      refine g_ast k C hW (by decide) rfl rfl (show k < 10 by omega) (by decide) dX10_settles_20 (fun H locs hW => ?_)
      refine lv_iinc (v := nI (k + 1)) (lv' := [(1, .int (nI (k + 1))), (0, .ref (gAd G 96))]) hx hb dX10_settles_21 hl (k := 0) rfl (nI_1 _) (by decide) rfl (fun ls hl => ?_)
      refine lv_goto (tgt := 2) hx hb dX10_settles_24 (by decide) ?_
      exact ih2 (k + 1) _ _ _ (by omega)  (by simpa [gcp, Nat.zero_add] using hW) (lv_sub hl [0, 1] rfl)
  exact L2 5 0 _ _ _ (by omega)  hW (lv_sub hl [0, 1] rfl)
