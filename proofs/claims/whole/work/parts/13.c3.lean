/-! ===== the class: the fewest to excuse; ways ===== -/
def kSil (ow : Nat → Int32) (D : Nat) (set rung chosen : Int32) : Bool := !decide (kOwn ow (rung &&& (chosen ^^^ -1)) D &&& set = set)
def kOfSet (ow : Nat → Int32) (set : Int32) (D : Nat) : Nat → Int32
  | 0 => 0
  | p + 1 => if kBit set (nI p) = 1 then kOfSet ow set D p ||| kOf ow (nI p) D else kOfSet ow set D p
/-- (what is noted, how many) behind i minutes; X: what rings in a minute -/
def kNote (X : Nat → Int32) (F : Int32 → Bool) (nt0 : Nat → Int32) (mi : Nat) : Nat → (Nat → Int32) × Nat
  | 0 => (nt0, 0)
  | i + 1 => if (!decide ((kNote X F nt0 mi i).2 ≤ 0) && decide ((kNote X F nt0 mi i).1 ((kNote X F nt0 mi i).2 - 1) = X (mi + i))) = true ∨ F (X (mi + i)) = true then kNote X F nt0 mi i else (upd (kNote X F nt0 mi i).1 (kNote X F nt0 mi i).2 (X (mi + i)), (kNote X F nt0 mi i).2 + 1)
theorem kNote_le {X : Nat → Int32} {F : Int32 → Bool} {nt0 : Nat → Int32} {mi : Nat} : ∀ i, (kNote X F nt0 mi i).2 ≤ i
  | 0 => Nat.le_refl 0
  | i + 1 => by
    rw [kNote]
    have := kNote_le (X := X) (F := F) (nt0 := nt0) (mi := mi) i
    split
    · omega
    · show _ + 1 ≤ _; omega
theorem nt_put (σ : gSt) (nt : Nat → Int32) (sz : Nat) (r x y : Int32) : gu (gu (gu (va_up σ 82 nt) 81 1 x) 82 sz r) 81 1 y = gu (va_up σ 82 (upd nt sz r)) 81 1 y := by
  funext c j
  simp only [gu_at]
  by_cases h : c = 82
  · subst h
    by_cases h2 : j = sz
    · subst h2; simp [va_up, upd]
    · simp [va_up, upd, h2]
  · by_cases h1 : c = 81 ∧ j = 1
    · simp [h1]
    · simp [h1, h, va_up]
def kAll (nt : Nat → Int32) (F : Int32 → Bool) : Nat → Nat → Bool
  | 0, _ => true
  | n + 1, i => if F (nt i) = true then kAll nt F n (i + 1) else false
def kBest (o : Nat) (G : Nat → Bool) : Nat → Int32
  | 0 => nI o
  | c + 1 => if nI c &&& (nI o ^^^ -1) = 0 ∧ ¬ kBC (kBest o G c) ≤ kBC (nI c) ∧ G c = true then nI c else kBest o G c
abbrev sX (σ : gSt) (ofs : Int32) (D : Nat) : Nat → Int32 := fun m => sDR σ (nI m) D &&& ofs
abbrev sNote (σ : gSt) (set ofs : Int32) (D mi i : Nat) : (Nat → Int32) × Nat := kNote (sX σ ofs D) (fun r => kSil (σ 20) D set r 0) (σ 82) mi i
abbrev sNoteS (σ : gSt) (set ofs : Int32) (D mi i : Nat) : gSt := gu (va_up σ 82 (sNote σ set ofs D mi i).1) 81 1 (nI (sNote σ set ofs D mi i).2)
theorem kMB_nat {wk a b : Nat} (ha : a < 2 ^ 30) (hb : b < 2 ^ 30) : kMB (nI wk) (nI a) (nI b) = nI (wk * nd a b) := by
  rw [kMB, kAbs, nd]
  by_cases q : b ≤ a
  · rw [if_pos q, pk_sub q, if_pos (nI_pos' (by omega)), pk_mul]
  · have e : nI a - nI b = 0 - nI (b - a) := by
      apply Int32.toInt_inj.mp
      rw [pk_sub_toInt ha hb, show (0 : Int32) = nI 0 from rfl, pk_sub_toInt (by decide) (by omega)]
      omega
    have hneg : ¬ 0 ≤ nI a - nI b := by
      rw [Int32.le_iff_toInt_le, pk_sub_toInt ha hb]
      show ¬ (0 : Int) ≤ _
      omega
    rw [if_neg q, if_neg hneg, e, show (0 : Int32) - (0 - nI (b - a)) = nI (b - a) by simp, pk_mul]
theorem kmin240 {mi g : Nat} (h : mi ≤ 240) (hg : g ≤ 1000) : (if nI mi + nI g < 240 then nI mi + nI g else 240) = nI (min 240 (mi + g)) := by
  rw [nI_add, show (240 : Int32) = nI 240 from rfl]
  rcases Nat.lt_or_ge (mi + g) 240 with q | q
  · rw [if_pos (nI_lt q (by decide)), Nat.min_eq_right (by omega)]
  · rw [if_neg (nI_nlt q (by omega)), Nat.min_eq_left q]
def kArr (ar fw : Nat → Int32) (mi g t : Nat) : Int32 := ar mi - ar (min 240 (mi + g)) + fw (min 240 (mi + g) * 6 + t)
def kRg (x : Int32) (a : Nat) : Int32 := if x &&& ((1 <<< (nI a &&& 31)) ^^^ -1) = 0 then 0 else 1
def kTolls (du ar fw : Nat → Int32) (wk mi a t : Nat) : Int32 := if a = t then kRg (du mi) a + fw ((mi + 1) * 6 + a) else kArr ar fw mi (wk * nd a t) t
abbrev sTolls (σ : gSt) (wk mi a t : Nat) : Int32 := kTolls (σ 78) (σ 79) (σ 80) wk mi a t
def kLess (x y : Int32) : Int32 := if y < x then y else x
def kFF1 (du ar fw : Nat → Int32) (wk mi a : Nat) : Int32 := if a ≤ 0 then kTolls du ar fw wk mi a a else kLess (kTolls du ar fw wk mi a a) (kTolls du ar fw wk mi a (a - 1))
def kFF (du ar fw : Nat → Int32) (wk L mi a : Nat) : Int32 := if L ≤ a + 1 then kFF1 du ar fw wk mi a else kLess (kFF1 du ar fw wk mi a) (kTolls du ar fw wk mi a (a + 1))
abbrev sFF (σ : gSt) (wk L mi a : Nat) : Int32 := kFF (σ 78) (σ 79) (σ 80) wk L mi a
def kW1 (S : gSt) (p : Int32) (D m : Nat) : gSt := gu (gu S 78 m (sDueAt S p (nI m) D)) 79 m (S 79 (m + 1) + (if sDueAt S p (nI m) D = 0 then 0 else 1))
def kW2 (S : gSt) (wk L m : Nat) : Nat → gSt
  | 0 => S
  | a + 1 => gu (kW2 S wk L m a) 80 (m * 6 + a) (sFF (kW2 S wk L m a) wk L m a)
def kWS (σ : gSt) (p : Int32) (D wk L : Nat) : Nat → gSt
  | 0 => σ
  | j + 1 => kW2 (kW1 (kWS σ p D wk L j) p D (239 - j)) wk L (239 - j) L
theorem kW1_ne {S : gSt} {p : Int32} {D m c : Nat} (h : c ≠ 78) (h2 : c ≠ 79) : kW1 S p D m c = S c := by rw [kW1, gu_ne h2, gu_ne h]
theorem kW2_ne {S : gSt} {wk L m c : Nat} (h : c ≠ 80) : ∀ a, kW2 S wk L m a c = S c
  | 0 => rfl
  | a + 1 => by rw [kW2, gu_ne h, kW2_ne h a]
theorem kWS_ne {σ : gSt} {p : Int32} {D wk L c : Nat} (h : c ≠ 78) (h2 : c ≠ 79) (h3 : c ≠ 80) : ∀ j, kWS σ p D wk L j c = σ c
  | 0 => rfl
  | j + 1 => by rw [kWS, kW2_ne h3, kW1_ne h h2, kWS_ne h h2 h3 j]
set_option maxHeartbeats 4000000 in
set_option maxRecDepth 100000 in
theorem k_silences (l : Launch) (G : gG) (σ : gSt) (τ : Nat → Int64) (a0 a1 a2 : Int32) (D : Nat) (hD : σ 10 2 = nI D) (hD8 : D ≤ 8) : gI l yX7_silences cX7_silences 5 (some .boolean) 2 44 G [.ref (gAd G 81), .ref (gAd G 9), .int a0, .int a1, .int a2] σ τ (bI (kSil (σ 20) D a0 a1 a2)) σ τ := by
  refine gMet_of (by decide) (Nat.le_of_ble_eq_true rfl) ?_
  intro p e s m args below meth c C hr hlk ls hl hW
  have hx := C.1
  have hb := C.2.1
  have hl : lv_has ls 5 [(0, .ref (gAd G 81)), (1, .ref (gAd G 9)), (2, .int a0), (3, .int a1), (4, .int a2)] := hl
  refine lv_aload_n hx hb dX7_silences_0 rfl (lv_at hl 1 rfl) ?_
  refine lv_iload_n hx hb dX7_silences_1 rfl (lv_at hl 3 rfl) ?_
  refine lv_iload hx hb dX7_silences_2 (lv_at hl 4 rfl) ?_
  refine lv_iconst (v := (-1)) hx hb dX7_silences_4 (by decide) ?_
  refine lv_ixor hx hb dX7_silences_5 ?_
  refine lv_iand hx hb dX7_silences_6 ?_
  refine g_callvI (r := kOwn (σ 20) (a1 &&& (a2 ^^^ (-1))) D) (σ' := σ) (rest := []) (As := [.int (a1 &&& (a2 ^^^ (-1)))]) C hW kv_X7_71 9 (by decide) (gL_0 rfl) rfl (k_owners l G σ τ (a1 &&& (a2 ^^^ (-1))) D hD hD8) ⟨Nat.le_of_ble_eq_true rfl, Nat.le_of_ble_eq_true rfl⟩ ⟨Nat.le_refl _, Nat.le_refl _⟩ rfl hl.1 rfl (Nat.le_of_ble_eq_true rfl) dX7_silences_7 (fun H locs hW => ?_)
  refine lv_iload_n hx hb dX7_silences_10 rfl (lv_at hl 2 rfl) ?_
  refine lv_iand hx hb dX7_silences_11 ?_
  refine lv_iload_n hx hb dX7_silences_12 rfl (lv_at hl 2 rfl) ?_
  refine lv_icmp_eq (tgt := 20) hx hb dX7_silences_13 (by decide) (fun c_1 => ?_) (fun c_1 => ?_)
  · skip
    refine lv_iconst (v := 0) hx hb dX7_silences_20 (by decide) ?_
    exact g_zret C hr hlk hW dX7_silences_21 (rfl) (by rw [kSil, dpos c_1]; rfl) (rfl) (rfl)
  · skip
    refine lv_iconst (v := 1) hx hb dX7_silences_16 (by decide) ?_
    refine lv_goto (tgt := 21) hx hb dX7_silences_17 (by decide) ?_
    exact g_zret C hr hlk hW dX7_silences_21 (rfl) (by rw [kSil, decide_eq_false c_1]; rfl) (rfl) (rfl)
set_option maxHeartbeats 4000000 in
set_option maxRecDepth 100000 in
theorem k_dutiesOfSet (l : Launch) (G : gG) (σ : gSt) (τ : Nat → Int64) (a0 : Int32) (D : Nat) (hD : σ 10 2 = nI D) (hD8 : D ≤ 8) (N : Nat) (hN : σ 10 1 = nI N) (hN5 : N ≤ 5) : gI l yX7_dutiesOfSet cX7_dutiesOfSet 5 (some .int) 1 23 G [.ref (gAd G 81), .ref (gAd G 9), .int a0] σ τ (kOfSet (σ 20) a0 D N) σ τ := by
  refine gMet_of (by decide) (Nat.le_of_ble_eq_true rfl) ?_
  intro p e s m args below meth c C hr hlk ls hl hW
  have hx := C.1
  have hb := C.2.1
  have hl : lv_has ls 5 [(0, .ref (gAd G 81)), (1, .ref (gAd G 9)), (2, .int a0)] := hl
  refine lv_iconst (v := 0) hx hb dX7_dutiesOfSet_0 (by decide) ?_
  refine lv_istore_n (lv' := [(3, .int 0), (0, .ref (gAd G 81)), (1, .ref (gAd G 9)), (2, .int a0)]) hx hb dX7_dutiesOfSet_1 rfl hl (by decide) rfl (fun ls hl => ?_)
  refine lv_iconst (v := 0) hx hb dX7_dutiesOfSet_2 (by decide) ?_
  refine lv_istore (lv' := [(4, .int 0), (3, .int 0), (0, .ref (gAd G 81)), (1, .ref (gAd G 9)), (2, .int a0)]) hx hb dX7_dutiesOfSet_3 hl (by decide) rfl (fun ls hl => ?_)
  have L5 : ∀ (n : Nat) (k : Nat) (v : Int32) (H : Heap) (locs : List Loc) (ls : Array Slot), n + k = N → v = (kOfSet (σ 20) a0 D k) → gW G s σ τ H locs → lv_has ls 5 [(4, .int (nI k)), (3, .int v), (0, .ref (gAd G 81)), (1, .ref (gAd G 9)), (2, .int a0)] → W p l e (gRm 1 23) s m args below meth c H locs 0 0 (MQ below (gQi G (kOfSet (σ 20) a0 D N) σ τ) args s 0 0 (gA G)) (F0 m 5 ls []) := by
    intro n
    induction n with
    | zero =>
      intro k v H locs ls hm hv hW hl
      refine lv_iload hx hb dX7_dutiesOfSet_5 (lv_at hl 0 rfl) ?_
      refine lv_aload_n hx hb dX7_dutiesOfSet_7 rfl (lv_at hl 3 rfl) ?_
      refine gf_X7_33 C hW (by decide) rfl dX7_dutiesOfSet_8 ?_
      refine gf_X7_39 (v := nI N) C hW (by decide) rfl hN dX7_dutiesOfSet_11 ?_
      refine lv_icmp_ge (tgt := 42) hx hb dX7_dutiesOfSet_14 (by decide) (fun _ => ?_) (fun zz => absurd (show nI N ≤ nI k from nI_le (by omega) (by omega)) zz)
      refine lv_iload_n hx hb dX7_dutiesOfSet_42 rfl (lv_at hl 1 rfl) ?_
      exact g_iret C hr hlk hW dX7_dutiesOfSet_43 (by rw [hv, show k = N by omega]) (rfl) (rfl)
    | succ n ih5 =>
      intro k v H locs ls hm hv hW hl
      refine lv_iload hx hb dX7_dutiesOfSet_5 (lv_at hl 0 rfl) ?_
      refine lv_aload_n hx hb dX7_dutiesOfSet_7 rfl (lv_at hl 3 rfl) ?_
      refine gf_X7_33 C hW (by decide) rfl dX7_dutiesOfSet_8 ?_
      refine gf_X7_39 (v := nI N) C hW (by decide) rfl hN dX7_dutiesOfSet_11 ?_
      refine lv_icmp_ge (tgt := 42) hx hb dX7_dutiesOfSet_14 (by decide) (fun zz => absurd zz (show ¬ nI N ≤ nI k from nI_ge (by omega) (by omega))) (fun _ => ?_)
      refine lv_iload_n hx hb dX7_dutiesOfSet_17 rfl (lv_at hl 4 rfl) ?_
      refine lv_iload hx hb dX7_dutiesOfSet_18 (lv_at hl 0 rfl) ?_
      refine g_callnI (r := kBit a0 (nI k)) (σ' := σ) (rest := []) (As := [.int a0, .int (nI k)]) (host := RX9) C.2.2.2.2.2.2.2.1 C hW kn_X9_bit (k_bit l G σ τ a0 (nI k)) ⟨Nat.le_of_ble_eq_true rfl, Nat.le_of_ble_eq_true rfl⟩ ⟨Nat.le_refl _, Nat.le_refl _⟩ rfl hl.1 rfl (Nat.le_of_ble_eq_true rfl) dX7_dutiesOfSet_20 (fun H locs hW => ?_)
      refine lv_iconst (v := 1) hx hb dX7_dutiesOfSet_23 (by decide) ?_
      refine lv_icmp_ne (tgt := 36) hx hb dX7_dutiesOfSet_24 (by decide) (fun c_1 => ?_) (fun c_1 => ?_)
      · skip
        refine lv_iinc (v := nI (k + 1)) (lv' := [(4, .int (nI (k + 1))), (3, .int v), (0, .ref (gAd G 81)), (1, .ref (gAd G 9)), (2, .int a0)]) hx hb dX7_dutiesOfSet_36 hl (k := 0) rfl (nI_1 _) (by decide) rfl (fun ls hl => ?_)
        refine lv_goto (tgt := 5) hx hb dX7_dutiesOfSet_39 (by decide) ?_
        exact ih5 (k + 1) v _ _ _ (by omega) (by rw [kOfSet, ← hv, if_neg c_1]) hW (lv_sub hl [0, 1, 2, 3, 4] rfl)
      · skip
        refine lv_iload_n hx hb dX7_dutiesOfSet_27 rfl (lv_at hl 1 rfl) ?_
        refine lv_aload_n hx hb dX7_dutiesOfSet_28 rfl (lv_at hl 3 rfl) ?_
        refine lv_iload hx hb dX7_dutiesOfSet_29 (lv_at hl 0 rfl) ?_
        refine g_callvI (r := kOf (σ 20) (nI k) D) (σ' := σ) (rest := [.int v]) (As := [.int (nI k)]) C hW kv_X7_49 9 (by decide) (gL_0 rfl) rfl (k_dutiesOf l G σ τ (nI k) D hD hD8) ⟨Nat.le_of_ble_eq_true rfl, Nat.le_of_ble_eq_true rfl⟩ ⟨Nat.le_refl _, Nat.le_refl _⟩ rfl hl.1 rfl (Nat.le_of_ble_eq_true rfl) dX7_dutiesOfSet_31 (fun H locs hW => ?_)
        refine lv_ior hx hb dX7_dutiesOfSet_34 ?_
        refine lv_istore_n (lv' := [(3, .int (v ||| (kOf (σ 20) (nI k) D))), (4, .int (nI k)), (0, .ref (gAd G 81)), (1, .ref (gAd G 9)), (2, .int a0)]) hx hb dX7_dutiesOfSet_35 rfl hl (by decide) rfl (fun ls hl => ?_)
        refine lv_iinc (v := nI (k + 1)) (lv' := [(4, .int (nI (k + 1))), (3, .int (v ||| (kOf (σ 20) (nI k) D))), (0, .ref (gAd G 81)), (1, .ref (gAd G 9)), (2, .int a0)]) hx hb dX7_dutiesOfSet_36 hl (k := 1) rfl (nI_1 _) (by decide) rfl (fun ls hl => ?_)
        refine lv_goto (tgt := 5) hx hb dX7_dutiesOfSet_39 (by decide) ?_
        exact ih5 (k + 1) (v ||| (kOf (σ 20) (nI k) D)) _ _ _ (by omega) (by rw [kOfSet, ← hv, if_pos c_1]) hW (lv_sub hl [0, 1, 2, 3, 4] rfl)
  exact L5 N 0 0 _ _ _ (by omega) (by first | rfl | simp [bI]) hW (lv_sub hl [0, 1, 2, 3, 4] rfl)
set_option maxHeartbeats 4000000 in
set_option maxRecDepth 100000 in
theorem k_noteMinutes (l : Launch) (G : gG) (σ : gSt) (τ : Nat → Int64) (a0 a1 : Int32) (D : Nat) (hD : σ 10 2 = nI D) (hD8 : D ≤ 8) (mi : Nat) (hmi : σ 16 0 = nI mi) (hmi2 : mi ≤ 240) (how : ∀ d, d < D → σ 20 d = nI (σ 20 d).toNatClampNeg ∧ (σ 20 d).toNatClampNeg < 5) : gV l yX7_noteMinutes cX7_noteMinutes 7 (none : Option Jvm.ClassFile.FieldType) 3 68 G [.ref (gAd G 81), .ref (gAd G 9), .int a0, .int a1] σ τ (sNoteS σ a0 a1 D mi (240 - mi)) τ := by
  refine gMet_of (by decide) (Nat.le_of_ble_eq_true rfl) ?_
  intro p e s m args below meth c C hr hlk ls hl hW
  have hx := C.1
  have hb := C.2.1
  have hl : lv_has ls 7 [(0, .ref (gAd G 81)), (1, .ref (gAd G 9)), (2, .int a0), (3, .int a1)] := hl
  refine lv_aload_n hx hb dX7_noteMinutes_0 rfl (lv_at hl 0 rfl) ?_
  refine lv_iconst (v := 0) hx hb dX7_noteMinutes_1 (by decide) ?_
  refine gp_X7_52 C hW (by decide) rfl dX7_noteMinutes_2 (fun H locs hW => ?_)
  refine lv_aload_n hx hb dX7_noteMinutes_5 rfl (lv_at hl 1 rfl) ?_
  refine gf_X7_55 C hW (by decide) rfl dX7_noteMinutes_6 ?_
  refine gf_X7_59 (v := nI mi) C hW (by decide) rfl hmi dX7_noteMinutes_9 ?_
  refine lv_istore (lv' := [(4, .int (nI mi)), (0, .ref (gAd G 81)), (1, .ref (gAd G 9)), (2, .int a0), (3, .int a1)]) hx hb dX7_noteMinutes_12 hl (by decide) rfl (fun ls hl => ?_)
  have L14 : ∀ (n : Nat) (i : Nat) (H : Heap) (locs : List Loc) (ls : Array Slot), n + (mi + i) = 240 → gW G s (gu (va_up σ 82 ((sNote σ a0 a1 D mi i).1)) 81 1 (nI (sNote σ a0 a1 D mi i).2)) τ H locs → lv_has ls 7 [(4, .int (nI (mi + i))), (0, .ref (gAd G 81)), (1, .ref (gAd G 9)), (2, .int a0), (3, .int a1)] → W p l e (gRm 3 68) s m args below meth c H locs 0 0 (MQ below (gQv G (sNoteS σ a0 a1 D mi (240 - mi)) τ) args s 0 0 (gA G)) (F0 m 14 ls []) := by
    intro n
    induction n with
    | zero =>
      intro i H locs ls hm hW hl
      refine lv_iload hx hb dX7_noteMinutes_14 (lv_at hl 0 rfl) ?_
      refine lv_sipush (v := 240) hx hb dX7_noteMinutes_16 (by decide) ?_
      refine lv_icmp_ge (tgt := 106) hx hb dX7_noteMinutes_19 (by decide) (fun _ => ?_) (fun zz => absurd (show nI 240 ≤ nI (mi + i) from nI_le (by omega) (by omega)) zz)
      exact g_vret C hr hlk hW dX7_noteMinutes_106 (by rw [sNoteS, show i = 240 - mi by omega]) (rfl)
    | succ n ih14 =>
      intro i H locs ls hm hW hl
      refine lv_iload hx hb dX7_noteMinutes_14 (lv_at hl 0 rfl) ?_
      refine lv_sipush (v := 240) hx hb dX7_noteMinutes_16 (by decide) ?_
      refine lv_icmp_ge (tgt := 106) hx hb dX7_noteMinutes_19 (by decide) (fun zz => absurd zz (show ¬ nI 240 ≤ nI (mi + i) from nI_ge (by omega) (by omega))) (fun _ => ?_)
      refine lv_aload_n hx hb dX7_noteMinutes_22 rfl (lv_at hl 2 rfl) ?_
      refine lv_iload hx hb dX7_noteMinutes_23 (lv_at hl 0 rfl) ?_
      refine g_callvI (r := sDR σ (nI (mi + i)) D) (σ' := gu (va_up σ 82 ((sNote σ a0 a1 D mi i).1)) 81 1 (nI (sNote σ a0 a1 D mi i).2)) (rest := []) (As := [.int (nI (mi + i))]) C hW kv_X7_64 9 (by decide) (gL_0 rfl) rfl (k_dutiesRung l G (gu (va_up σ 82 ((sNote σ a0 a1 D mi i).1)) 81 1 (nI (sNote σ a0 a1 D mi i).2)) τ (nI (mi + i)) D hD hD8 how) ⟨Nat.le_of_ble_eq_true rfl, Nat.le_of_ble_eq_true rfl⟩ ⟨Nat.le_refl _, Nat.le_refl _⟩ rfl hl.1 rfl (Nat.le_of_ble_eq_true rfl) dX7_noteMinutes_25 (fun H locs hW => ?_)
      refine lv_iload_n hx hb dX7_noteMinutes_28 rfl (lv_at hl 4 rfl) ?_
      refine lv_iand hx hb dX7_noteMinutes_29 ?_
      refine lv_topi (fun y_ hy_ => ?_)
      refine lv_istore (lv' := [(5, .int y_), (4, .int (nI (mi + i))), (0, .ref (gAd G 81)), (1, .ref (gAd G 9)), (2, .int a0), (3, .int a1)]) hx hb dX7_noteMinutes_30 hl (by decide) rfl (fun ls hl => ?_)
      have hsz : (sNote σ a0 a1 D mi i).2 ≤ i := kNote_le i
      have K60 : ∀ (z : Bool), z = (!decide ((sNote σ a0 a1 D mi i).2 ≤ 0) && decide ((sNote σ a0 a1 D mi i).1 ((sNote σ a0 a1 D mi i).2 - 1) = y_)) → ∀ (H : Heap) (locs : List Loc) (ls : Array Slot), gW G s (gu (va_up σ 82 ((sNote σ a0 a1 D mi i).1)) 81 1 (nI (sNote σ a0 a1 D mi i).2)) τ H locs → lv_has ls 7 [(5, .int y_), (4, .int (nI (mi + i))), (0, .ref (gAd G 81)), (1, .ref (gAd G 9)), (2, .int a0), (3, .int a1)] → W p l e (gRm 3 68) s m args below meth c H locs 0 0 (MQ below (gQv G (sNoteS σ a0 a1 D mi (240 - mi)) τ) args s 0 0 (gA G)) (F0 m 60 ls [.int (bI z)]) := by
        intro z hz H locs ls hW hl
        refine lv_istore (lv' := [(6, .int (bI z)), (5, .int y_), (4, .int (nI (mi + i))), (0, .ref (gAd G 81)), (1, .ref (gAd G 9)), (2, .int a0), (3, .int a1)]) hx hb dX7_noteMinutes_60 hl (by decide) rfl (fun ls hl => ?_)
        refine lv_iload hx hb dX7_noteMinutes_62 (lv_at hl 0 rfl) ?_
        refine lv_if_ne (tgt := 100) hx hb dX7_noteMinutes_64 (by decide) (fun c_1 => ?_) (fun c_1 => ?_)
        · skip
          replace c_1 : z = true := bI_ne0.mp c_1
          refine lv_iinc (v := nI (mi + i + 1)) (lv' := [(4, .int (nI (mi + i + 1))), (6, .int (bI z)), (5, .int y_), (0, .ref (gAd G 81)), (1, .ref (gAd G 9)), (2, .int a0), (3, .int a1)]) hx hb dX7_noteMinutes_100 hl (k := 2) rfl (nI_1 _) (by decide) rfl (fun ls hl => ?_)
          refine lv_goto (tgt := 14) hx hb dX7_noteMinutes_103 (by decide) ?_
          exact ih14 (i + 1) _ _ _ (by omega)  (by rw [show sNote σ a0 a1 D mi (i + 1) = (sNote σ a0 a1 D mi i) from if_pos (Or.inl (by rw [← c_1, hz, hy_]))]; exact hW) (lv_sub hl [0, 3, 4, 5, 6] rfl)
        · skip
          replace c_1 : z = false := bI_eq0.mp c_1
          refine lv_aload_n hx hb dX7_noteMinutes_67 rfl (lv_at hl 3 rfl) ?_
          refine lv_aload_n hx hb dX7_noteMinutes_68 rfl (lv_at hl 4 rfl) ?_
          refine lv_iload_n hx hb dX7_noteMinutes_69 rfl (lv_at hl 5 rfl) ?_
          refine lv_iload hx hb dX7_noteMinutes_70 (lv_at hl 1 rfl) ?_
          refine lv_iconst (v := 0) hx hb dX7_noteMinutes_72 (by decide) ?_
          refine g_callvI (r := bI (kSil (σ 20) D a0 y_ 0)) (σ' := gu (va_up σ 82 ((sNote σ a0 a1 D mi i).1)) 81 1 (nI (sNote σ a0 a1 D mi i).2)) (rest := []) (As := [.ref (gAd G 9), .int a0, .int y_, .int 0]) C hW kv_X7_67 81 (by decide) (gL_7 rfl) rfl (k_silences l G (gu (va_up σ 82 ((sNote σ a0 a1 D mi i).1)) 81 1 (nI (sNote σ a0 a1 D mi i).2)) τ a0 y_ 0 D hD hD8) ⟨Nat.le_of_ble_eq_true rfl, Nat.le_of_ble_eq_true rfl⟩ ⟨Nat.le_refl _, Nat.le_refl _⟩ rfl hl.1 rfl (Nat.le_of_ble_eq_true rfl) dX7_noteMinutes_73 (fun H locs hW => ?_)
          refine lv_if_ne (tgt := 100) hx hb dX7_noteMinutes_76 (by decide) (fun c_2 => ?_) (fun c_2 => ?_)
          · skip
            replace c_2 : (kSil (σ 20) D a0 y_ 0) = true := bI_ne0.mp c_2
            refine lv_iinc (v := nI (mi + i + 1)) (lv' := [(4, .int (nI (mi + i + 1))), (6, .int (bI z)), (5, .int y_), (0, .ref (gAd G 81)), (1, .ref (gAd G 9)), (2, .int a0), (3, .int a1)]) hx hb dX7_noteMinutes_100 hl (k := 2) rfl (nI_1 _) (by decide) rfl (fun ls hl => ?_)
            refine lv_goto (tgt := 14) hx hb dX7_noteMinutes_103 (by decide) ?_
            exact ih14 (i + 1) _ _ _ (by omega)  (by rw [show sNote σ a0 a1 D mi (i + 1) = (sNote σ a0 a1 D mi i) from if_pos (Or.inr (by rw [hy_] at c_2; exact c_2))]; exact hW) (lv_sub hl [0, 3, 4, 5, 6] rfl)
          · skip
            replace c_2 : (kSil (σ 20) D a0 y_ 0) = false := bI_eq0.mp c_2
            refine lv_aload_n hx hb dX7_noteMinutes_79 rfl (lv_at hl 3 rfl) ?_
            refine gf_X7_9 C hW (by decide) rfl dX7_noteMinutes_80 ?_
            refine lv_aload_n hx hb dX7_noteMinutes_83 rfl (lv_at hl 3 rfl) ?_
            refine gf_X7_52 (v := nI ((sNote σ a0 a1 D mi i).2)) C hW (by decide) rfl rfl dX7_noteMinutes_84 ?_
            refine lv_iload hx hb dX7_noteMinutes_87 (lv_at hl 1 rfl) ?_
            refine g_ast ((sNote σ a0 a1 D mi i).2) C hW (by decide) rfl rfl (show ((sNote σ a0 a1 D mi i).2) < 240 by omega) (by decide) dX7_noteMinutes_89 (fun H locs hW => ?_)
            refine lv_aload_n hx hb dX7_noteMinutes_90 rfl (lv_at hl 3 rfl) ?_
            refine lv_dup hx hb dX7_noteMinutes_91 rfl ?_
            refine gf_X7_52 (v := nI ((sNote σ a0 a1 D mi i).2)) C hW (by decide) rfl rfl dX7_noteMinutes_92 ?_
            refine lv_iconst (v := 1) hx hb dX7_noteMinutes_95 (by decide) ?_
            refine lv_iadd hx hb dX7_noteMinutes_96 ?_
            refine gp_X7_52 C hW (by decide) rfl dX7_noteMinutes_97 (fun H locs hW => ?_)
            refine lv_iinc (v := nI (mi + i + 1)) (lv' := [(4, .int (nI (mi + i + 1))), (6, .int (bI z)), (5, .int y_), (0, .ref (gAd G 81)), (1, .ref (gAd G 9)), (2, .int a0), (3, .int a1)]) hx hb dX7_noteMinutes_100 hl (k := 2) rfl (nI_1 _) (by decide) rfl (fun ls hl => ?_)
            refine lv_goto (tgt := 14) hx hb dX7_noteMinutes_103 (by decide) ?_
            exact ih14 (i + 1) _ _ _ (by omega)  (by rw [nt_put, nI_1] at hW; rw [show sNote σ a0 a1 D mi (i + 1) = (upd (sNote σ a0 a1 D mi i).1 (sNote σ a0 a1 D mi i).2 y_, (sNote σ a0 a1 D mi i).2 + 1) from by rw [hy_]; exact if_neg (by rintro (q | q); exact bneg c_1 (by rw [hz, hy_]; exact q); exact bneg c_2 (by rw [hy_]; exact q))]; exact hW) (lv_sub hl [0, 3, 4, 5, 6] rfl)
      refine lv_aload_n hx hb dX7_noteMinutes_32 rfl (lv_at hl 2 rfl) ?_
      refine gf_X7_52 (v := nI ((sNote σ a0 a1 D mi i).2)) C hW (by decide) rfl rfl dX7_noteMinutes_33 ?_
      refine lv_if_le (tgt := 59) hx hb dX7_noteMinutes_36 (by decide) (fun c_3 => ?_) (fun c_3 => ?_)
      · skip
        replace c_3 : ((sNote σ a0 a1 D mi i).2) ≤ 0 := (nI_leI (a := ((sNote σ a0 a1 D mi i).2)) (b := 0) (by omega) (by omega)).mp c_3
        refine lv_iconst (v := 0) hx hb dX7_noteMinutes_59 (by decide) ?_
        exact K60 false (by first | (rw [dpos (show (sNote σ a0 a1 D mi i).2 ≤ 0 by assumption)]; rfl) | (rw [decide_eq_false (show ¬ (sNote σ a0 a1 D mi i).2 ≤ 0 by omega), decide_eq_false c_3]; rfl)) _ _ _ hW (lv_sub hl [0, 1, 2, 3, 4, 5] rfl)
      · skip
        replace c_3 : 0 < ((sNote σ a0 a1 D mi i).2) := Nat.not_le.mp (mt (nI_leI (a := ((sNote σ a0 a1 D mi i).2)) (b := 0) (by omega) (by omega)).mpr c_3)
        refine lv_aload_n hx hb dX7_noteMinutes_39 rfl (lv_at hl 2 rfl) ?_
        refine gf_X7_9 C hW (by decide) rfl dX7_noteMinutes_40 ?_
        refine lv_aload_n hx hb dX7_noteMinutes_43 rfl (lv_at hl 2 rfl) ?_
        refine gf_X7_52 (v := nI ((sNote σ a0 a1 D mi i).2)) C hW (by decide) rfl rfl dX7_noteMinutes_44 ?_
        refine lv_iconst (v := 1) hx hb dX7_noteMinutes_47 (by decide) ?_
        refine lv_isub hx hb dX7_noteMinutes_48 ?_
        refine g_ald (v := ((sNote σ a0 a1 D mi i).1) (((sNote σ a0 a1 D mi i).2) - 1)) (((sNote σ a0 a1 D mi i).2) - 1) C hW (by decide) rfl (gsub (rfl : nI ((sNote σ a0 a1 D mi i).2) = nI ((sNote σ a0 a1 D mi i).2)) (rfl : 1 = nI 1) (by omega)) (show (((sNote σ a0 a1 D mi i).2) - 1) < 240 by omega) (by decide) rfl dX7_noteMinutes_49 ?_
        refine lv_iload hx hb dX7_noteMinutes_50 (lv_at hl 0 rfl) ?_
        refine lv_icmp_ne (tgt := 59) hx hb dX7_noteMinutes_52 (by decide) (fun c_4 => ?_) (fun c_4 => ?_)
        · skip
          refine lv_iconst (v := 0) hx hb dX7_noteMinutes_59 (by decide) ?_
          exact K60 false (by first | (rw [dpos (show (sNote σ a0 a1 D mi i).2 ≤ 0 by assumption)]; rfl) | (rw [decide_eq_false (show ¬ (sNote σ a0 a1 D mi i).2 ≤ 0 by omega), decide_eq_false c_4]; rfl)) _ _ _ hW (lv_sub hl [0, 1, 2, 3, 4, 5] rfl)
        · skip
          refine lv_iconst (v := 1) hx hb dX7_noteMinutes_55 (by decide) ?_
          refine lv_goto (tgt := 60) hx hb dX7_noteMinutes_56 (by decide) ?_
          exact K60 true (by first | (rw [dpos (show (sNote σ a0 a1 D mi i).2 ≤ 0 by assumption)]; rfl) | (rw [decide_eq_false (show ¬ (sNote σ a0 a1 D mi i).2 ≤ 0 by omega), dpos c_4]; rfl)) _ _ _ hW (lv_sub hl [0, 1, 2, 3, 4, 5] rfl)
  exact L14 (240 - mi) 0 _ _ _ (by omega)  (by rw [show (sNote σ a0 a1 D mi 0).1 = σ 82 from rfl, gup_self]; exact hW) (lv_sub hl [0, 1, 2, 3, 4] rfl)
set_option maxHeartbeats 4000000 in
set_option maxRecDepth 100000 in
theorem k_silencesAll (l : Launch) (G : gG) (σ : gSt) (τ : Nat → Int64) (a0 a1 : Int32) (sz : Nat) (hsz : σ 81 1 = nI sz) (hsz2 : sz ≤ 240) (D : Nat) (hD : σ 10 2 = nI D) (hD8 : D ≤ 8) : gI l yX7_silencesAll cX7_silencesAll 5 (some .boolean) 3 68 G [.ref (gAd G 81), .ref (gAd G 9), .int a0, .int a1] σ τ (bI (kAll (σ 82) (fun r => kSil (σ 20) D a0 r a1) sz 0)) σ τ := by
  refine gMet_of (by decide) (Nat.le_of_ble_eq_true rfl) ?_
  intro p e s m args below meth c C hr hlk ls hl hW
  have hx := C.1
  have hb := C.2.1
  have hl : lv_has ls 5 [(0, .ref (gAd G 81)), (1, .ref (gAd G 9)), (2, .int a0), (3, .int a1)] := hl
  refine lv_iconst (v := 0) hx hb dX7_silencesAll_0 (by decide) ?_
  refine lv_istore (lv' := [(4, .int 0), (0, .ref (gAd G 81)), (1, .ref (gAd G 9)), (2, .int a0), (3, .int a1)]) hx hb dX7_silencesAll_1 hl (by decide) rfl (fun ls hl => ?_)
  have L3 : ∀ (n : Nat) (i : Nat) (H : Heap) (locs : List Loc) (ls : Array Slot), n + i = sz → (kAll (σ 82) (fun r => kSil (σ 20) D a0 r a1) n i = kAll (σ 82) (fun r => kSil (σ 20) D a0 r a1) sz 0) → gW G s σ τ H locs → lv_has ls 5 [(4, .int (nI i)), (0, .ref (gAd G 81)), (1, .ref (gAd G 9)), (2, .int a0), (3, .int a1)] → W p l e (gRm 3 68) s m args below meth c H locs 0 0 (MQ below (gQi G (bI (kAll (σ 82) (fun r => kSil (σ 20) D a0 r a1) sz 0)) σ τ) args s 0 0 (gA G)) (F0 m 3 ls []) := by
    intro n
    induction n with
    | zero =>
      intro i H locs ls hm hq hW hl
      refine lv_iload hx hb dX7_silencesAll_3 (lv_at hl 0 rfl) ?_
      refine lv_aload_n hx hb dX7_silencesAll_5 rfl (lv_at hl 1 rfl) ?_
      refine gf_X7_52 (v := nI sz) C hW (by decide) rfl hsz dX7_silencesAll_6 ?_
      refine lv_icmp_ge (tgt := 37) hx hb dX7_silencesAll_9 (by decide) (fun _ => ?_) (fun zz => absurd (show nI sz ≤ nI i from nI_le (by omega) (by omega)) zz)
      refine lv_iconst (v := 1) hx hb dX7_silencesAll_37 (by decide) ?_
      exact g_zret C hr hlk hW dX7_silencesAll_38 (rfl) (by rw [← hq]; rfl) (rfl) (rfl)
    | succ n ih3 =>
      intro i H locs ls hm hq hW hl
      refine lv_iload hx hb dX7_silencesAll_3 (lv_at hl 0 rfl) ?_
      refine lv_aload_n hx hb dX7_silencesAll_5 rfl (lv_at hl 1 rfl) ?_
      refine gf_X7_52 (v := nI sz) C hW (by decide) rfl hsz dX7_silencesAll_6 ?_
      refine lv_icmp_ge (tgt := 37) hx hb dX7_silencesAll_9 (by decide) (fun zz => absurd zz (show ¬ nI sz ≤ nI i from nI_ge (by omega) (by omega))) (fun _ => ?_)
      refine lv_aload_n hx hb dX7_silencesAll_12 rfl (lv_at hl 1 rfl) ?_
      refine lv_aload_n hx hb dX7_silencesAll_13 rfl (lv_at hl 2 rfl) ?_
      refine lv_iload_n hx hb dX7_silencesAll_14 rfl (lv_at hl 3 rfl) ?_
      refine lv_aload_n hx hb dX7_silencesAll_15 rfl (lv_at hl 1 rfl) ?_
      refine gf_X7_9 C hW (by decide) rfl dX7_silencesAll_16 ?_
      refine lv_iload hx hb dX7_silencesAll_19 (lv_at hl 0 rfl) ?_
      refine g_ald (v := σ 82 i) i C hW (by decide) rfl rfl (show i < 240 by omega) (by decide) rfl dX7_silencesAll_21 ?_
      refine lv_iload_n hx hb dX7_silencesAll_22 rfl (lv_at hl 4 rfl) ?_
      refine g_callvI (r := bI (kSil (σ 20) D a0 (σ 82 i) a1)) (σ' := σ) (rest := []) (As := [.ref (gAd G 9), .int a0, .int (σ 82 i), .int a1]) C hW kv_X7_67 81 (by decide) (gL_7 rfl) rfl (k_silences l G σ τ a0 (σ 82 i) a1 D hD hD8) ⟨Nat.le_of_ble_eq_true rfl, Nat.le_of_ble_eq_true rfl⟩ ⟨Nat.le_refl _, Nat.le_refl _⟩ rfl hl.1 rfl (Nat.le_of_ble_eq_true rfl) dX7_silencesAll_23 (fun H locs hW => ?_)
      refine lv_if_ne (tgt := 31) hx hb dX7_silencesAll_26 (by decide) (fun c_1 => ?_) (fun c_1 => ?_)
      · skip
        replace c_1 : (kSil (σ 20) D a0 (σ 82 i) a1) = true := bI_ne0.mp c_1
        refine lv_iinc (v := nI (i + 1)) (lv' := [(4, .int (nI (i + 1))), (0, .ref (gAd G 81)), (1, .ref (gAd G 9)), (2, .int a0), (3, .int a1)]) hx hb dX7_silencesAll_31 hl (k := 0) rfl (nI_1 _) (by decide) rfl (fun ls hl => ?_)
        refine lv_goto (tgt := 3) hx hb dX7_silencesAll_34 (by decide) ?_
        exact ih3 (i + 1) _ _ _ (by omega) (by rw [← hq, kAll, if_pos c_1]) hW (lv_sub hl [0, 1, 2, 3, 4] rfl)
      · skip
        replace c_1 : (kSil (σ 20) D a0 (σ 82 i) a1) = false := bI_eq0.mp c_1
        refine lv_iconst (v := 0) hx hb dX7_silencesAll_29 (by decide) ?_
        exact g_zret C hr hlk hW dX7_silencesAll_30 (rfl) (by rw [← hq, kAll, if_neg (bneg c_1)]; rfl) (rfl) (rfl)
  exact L3 sz 0 _ _ _ (by omega) rfl hW (lv_sub hl [0, 1, 2, 3, 4] rfl)
set_option maxHeartbeats 4000000 in
set_option maxRecDepth 100000 in
theorem k_fewest (l : Launch) (G : gG) (σ : gSt) (τ : Nat → Int64) (a0 : Int32) (D : Nat) (hD : σ 10 2 = nI D) (hD8 : D ≤ 8) (N : Nat) (hN : σ 10 1 = nI N) (hN5 : N ≤ 5) (mi : Nat) (hmi : σ 16 0 = nI mi) (hmi2 : mi ≤ 240) (how : ∀ d, d < D → σ 20 d = nI (σ 20 d).toNatClampNeg ∧ (σ 20 d).toNatClampNeg < 5) (o : Nat) (ho : kOfSet (σ 20) a0 D N = nI o) (ho2 : o ≤ 255) : gI l yX7_fewest cX7_fewest 7 (some .int) 4 94 G [.ref (gAd G 81), .ref (gAd G 9), .int a0] σ τ (kBest o (fun c => kAll (sNote σ a0 (nI o) D mi (240 - mi)).1 (fun r => kSil (σ 20) D a0 r (nI c)) (sNote σ a0 (nI o) D mi (240 - mi)).2 0) o) (sNoteS σ a0 (nI o) D mi (240 - mi)) τ := by
  refine gMet_of (by decide) (Nat.le_of_ble_eq_true rfl) ?_
  intro p e s m args below meth c C hr hlk ls hl hW
  have hx := C.1
  have hb := C.2.1
  have hl : lv_has ls 7 [(0, .ref (gAd G 81)), (1, .ref (gAd G 9)), (2, .int a0)] := hl
  refine lv_aload_n hx hb dX7_fewest_0 rfl (lv_at hl 0 rfl) ?_
  refine lv_aload_n hx hb dX7_fewest_1 rfl (lv_at hl 1 rfl) ?_
  refine lv_iload_n hx hb dX7_fewest_2 rfl (lv_at hl 2 rfl) ?_
  refine g_callvI (r := kOfSet (σ 20) a0 D N) (σ' := σ) (rest := []) (As := [.ref (gAd G 9), .int a0]) C hW kv_X7_15 81 (by decide) (gL_7 rfl) rfl (k_dutiesOfSet l G σ τ a0 D hD hD8 N hN hN5) ⟨Nat.le_of_ble_eq_true rfl, Nat.le_of_ble_eq_true rfl⟩ ⟨Nat.le_refl _, Nat.le_refl _⟩ rfl hl.1 rfl (Nat.le_of_ble_eq_true rfl) dX7_fewest_3 (fun H locs hW => ?_)
  rw [ho]
  refine lv_istore_n (lv' := [(3, .int (nI o)), (0, .ref (gAd G 81)), (1, .ref (gAd G 9)), (2, .int a0)]) hx hb dX7_fewest_6 rfl hl (by decide) rfl (fun ls hl => ?_)
  refine lv_aload_n hx hb dX7_fewest_7 rfl (lv_at hl 1 rfl) ?_
  refine lv_aload_n hx hb dX7_fewest_8 rfl (lv_at hl 2 rfl) ?_
  refine lv_iload_n hx hb dX7_fewest_9 rfl (lv_at hl 3 rfl) ?_
  refine lv_iload_n hx hb dX7_fewest_10 rfl (lv_at hl 0 rfl) ?_
  refine g_callvV (σ' := gu (va_up σ 82 ((sNote σ a0 (nI o) D mi (240 - mi)).1)) 81 1 (nI (sNote σ a0 (nI o) D mi (240 - mi)).2)) (rest := []) (As := [.ref (gAd G 9), .int a0, .int (nI o)]) C hW kv_X7_19 81 (by decide) (gL_7 rfl) rfl (k_noteMinutes l G σ τ a0 (nI o) D hD hD8 mi hmi hmi2 how) ⟨Nat.le_of_ble_eq_true rfl, Nat.le_of_ble_eq_true rfl⟩ ⟨Nat.le_refl _, Nat.le_refl _⟩ rfl hl.1 rfl (Nat.le_of_ble_eq_true rfl) dX7_fewest_11 (fun H locs hW => ?_)
  refine lv_iload_n hx hb dX7_fewest_14 rfl (lv_at hl 0 rfl) ?_
  refine lv_istore (lv' := [(4, .int (nI o)), (3, .int (nI o)), (0, .ref (gAd G 81)), (1, .ref (gAd G 9)), (2, .int a0)]) hx hb dX7_fewest_15 hl (by decide) rfl (fun ls hl => ?_)
  refine lv_iconst (v := 0) hx hb dX7_fewest_17 (by decide) ?_
  refine lv_istore (lv' := [(5, .int 0), (4, .int (nI o)), (3, .int (nI o)), (0, .ref (gAd G 81)), (1, .ref (gAd G 9)), (2, .int a0)]) hx hb dX7_fewest_18 hl (by decide) rfl (fun ls hl => ?_)
  have L20 : ∀ (n : Nat) (c_ : Nat) (v : Int32) (H : Heap) (locs : List Loc) (ls : Array Slot), n + c_ = o → v = (kBest o (fun c => kAll (sNote σ a0 (nI o) D mi (240 - mi)).1 (fun r => kSil (σ 20) D a0 r (nI c)) (sNote σ a0 (nI o) D mi (240 - mi)).2 0) c_) → gW G s (gu (va_up σ 82 ((sNote σ a0 (nI o) D mi (240 - mi)).1)) 81 1 (nI (sNote σ a0 (nI o) D mi (240 - mi)).2)) τ H locs → lv_has ls 7 [(5, .int (nI c_)), (4, .int v), (3, .int (nI o)), (0, .ref (gAd G 81)), (1, .ref (gAd G 9)), (2, .int a0)] → W p l e (gRm 4 94) s m args below meth c H locs 0 0 (MQ below (gQi G (kBest o (fun c => kAll (sNote σ a0 (nI o) D mi (240 - mi)).1 (fun r => kSil (σ 20) D a0 r (nI c)) (sNote σ a0 (nI o) D mi (240 - mi)).2 0) o) (sNoteS σ a0 (nI o) D mi (240 - mi)) τ) args s 0 0 (gA G)) (F0 m 20 ls []) := by
    intro n
    induction n with
    | zero =>
      intro c_ v H locs ls hm hv hW hl
      refine lv_iload hx hb dX7_fewest_20 (lv_at hl 0 rfl) ?_
      refine lv_iload_n hx hb dX7_fewest_22 rfl (lv_at hl 2 rfl) ?_
      refine lv_icmp_ge (tgt := 81) hx hb dX7_fewest_23 (by decide) (fun _ => ?_) (fun zz => absurd (show nI o ≤ nI c_ from nI_le (by omega) (by omega)) zz)
      refine lv_iload hx hb dX7_fewest_81 (lv_at hl 1 rfl) ?_
      exact g_iret C hr hlk hW dX7_fewest_83 (by rw [hv, show c_ = o by omega]) (rfl) (rfl)
    | succ n ih20 =>
      intro c_ v H locs ls hm hv hW hl
      refine lv_iload hx hb dX7_fewest_20 (lv_at hl 0 rfl) ?_
      refine lv_iload_n hx hb dX7_fewest_22 rfl (lv_at hl 2 rfl) ?_
      refine lv_icmp_ge (tgt := 81) hx hb dX7_fewest_23 (by decide) (fun zz => absurd zz (show ¬ nI o ≤ nI c_ from nI_ge (by omega) (by omega))) (fun _ => ?_)
      have K44 : ∀ (z : Bool), z = (decide (¬ kBC v ≤ kBC (nI c_))) → ∀ (H : Heap) (locs : List Loc) (ls : Array Slot), gW G s (gu (va_up σ 82 ((sNote σ a0 (nI o) D mi (240 - mi)).1)) 81 1 (nI (sNote σ a0 (nI o) D mi (240 - mi)).2)) τ H locs → lv_has ls 7 [(5, .int (nI c_)), (4, .int v), (3, .int (nI o)), (0, .ref (gAd G 81)), (1, .ref (gAd G 9)), (2, .int a0)] → W p l e (gRm 4 94) s m args below meth c H locs 0 0 (MQ below (gQi G (kBest o (fun c => kAll (sNote σ a0 (nI o) D mi (240 - mi)).1 (fun r => kSil (σ 20) D a0 r (nI c)) (sNote σ a0 (nI o) D mi (240 - mi)).2 0) o) (sNoteS σ a0 (nI o) D mi (240 - mi)) τ) args s 0 0 (gA G)) (F0 m 44 ls [.int (bI z)]) := by
        intro z hz H locs ls hW hl
        refine lv_istore (lv' := [(6, .int (bI z)), (5, .int (nI c_)), (4, .int v), (3, .int (nI o)), (0, .ref (gAd G 81)), (1, .ref (gAd G 9)), (2, .int a0)]) hx hb dX7_fewest_44 hl (by decide) rfl (fun ls hl => ?_)
        refine lv_iload hx hb dX7_fewest_46 (lv_at hl 1 rfl) ?_
        refine lv_iload_n hx hb dX7_fewest_48 rfl (lv_at hl 3 rfl) ?_
        refine lv_iconst (v := (-1)) hx hb dX7_fewest_49 (by decide) ?_
        refine lv_ixor hx hb dX7_fewest_50 ?_
        refine lv_iand hx hb dX7_fewest_51 ?_
        refine lv_if_ne (tgt := 75) hx hb dX7_fewest_52 (by decide) (fun c_1 => ?_) (fun c_1 => ?_)
        · skip
          refine lv_iinc (v := nI (c_ + 1)) (lv' := [(5, .int (nI (c_ + 1))), (6, .int (bI z)), (4, .int v), (3, .int (nI o)), (0, .ref (gAd G 81)), (1, .ref (gAd G 9)), (2, .int a0)]) hx hb dX7_fewest_75 hl (k := 1) rfl (nI_1 _) (by decide) rfl (fun ls hl => ?_)
          refine lv_goto (tgt := 20) hx hb dX7_fewest_78 (by decide) ?_
          exact ih20 (c_ + 1) v _ _ _ (by omega) (by rw [kBest, if_neg (fun q => c_1 q.1), hv]) hW (lv_sub hl [0, 2, 3, 4, 5, 6] rfl)
        · skip
          refine lv_iload hx hb dX7_fewest_55 (lv_at hl 0 rfl) ?_
          refine lv_if_eq (tgt := 75) hx hb dX7_fewest_57 (by decide) (fun c_2 => ?_) (fun c_2 => ?_)
          · skip
            replace c_2 : z = false := bI_eq0.mp c_2
            refine lv_iinc (v := nI (c_ + 1)) (lv' := [(5, .int (nI (c_ + 1))), (6, .int (bI z)), (4, .int v), (3, .int (nI o)), (0, .ref (gAd G 81)), (1, .ref (gAd G 9)), (2, .int a0)]) hx hb dX7_fewest_75 hl (k := 1) rfl (nI_1 _) (by decide) rfl (fun ls hl => ?_)
            refine lv_goto (tgt := 20) hx hb dX7_fewest_78 (by decide) ?_
            exact ih20 (c_ + 1) v _ _ _ (by omega) (by rw [kBest, if_neg (fun q => q.2.1 (by rw [← hv]; exact Decidable.not_not.mp (of_decide_eq_false (Eq.trans hz.symm c_2)))), hv]) hW (lv_sub hl [0, 2, 3, 4, 5, 6] rfl)
          · skip
            replace c_2 : z = true := bI_ne0.mp c_2
            refine lv_aload_n hx hb dX7_fewest_60 rfl (lv_at hl 4 rfl) ?_
            refine lv_aload_n hx hb dX7_fewest_61 rfl (lv_at hl 5 rfl) ?_
            refine lv_iload_n hx hb dX7_fewest_62 rfl (lv_at hl 6 rfl) ?_
            refine lv_iload hx hb dX7_fewest_63 (lv_at hl 1 rfl) ?_
            refine g_callvI (r := bI (kAll (sNote σ a0 (nI o) D mi (240 - mi)).1 (fun r => kSil (σ 20) D a0 r (nI c_)) (sNote σ a0 (nI o) D mi (240 - mi)).2 0)) (σ' := gu (va_up σ 82 ((sNote σ a0 (nI o) D mi (240 - mi)).1)) 81 1 (nI (sNote σ a0 (nI o) D mi (240 - mi)).2)) (rest := []) (As := [.ref (gAd G 9), .int a0, .int (nI c_)]) C hW kv_X7_29 81 (by decide) (gL_7 rfl) rfl (k_silencesAll l G (gu (va_up σ 82 ((sNote σ a0 (nI o) D mi (240 - mi)).1)) 81 1 (nI (sNote σ a0 (nI o) D mi (240 - mi)).2)) τ a0 (nI c_) (sNote σ a0 (nI o) D mi (240 - mi)).2 rfl (Nat.le_trans (kNote_le _) (by omega)) D hD hD8) ⟨Nat.le_of_ble_eq_true rfl, Nat.le_of_ble_eq_true rfl⟩ ⟨Nat.le_refl _, Nat.le_refl _⟩ rfl hl.1 rfl (Nat.le_of_ble_eq_true rfl) dX7_fewest_65 (fun H locs hW => ?_)
            refine lv_if_eq (tgt := 75) hx hb dX7_fewest_68 (by decide) (fun c_3 => ?_) (fun c_3 => ?_)
            · skip
              replace c_3 : (kAll (sNote σ a0 (nI o) D mi (240 - mi)).1 (fun r => kSil (σ 20) D a0 r (nI c_)) (sNote σ a0 (nI o) D mi (240 - mi)).2 0) = false := bI_eq0.mp c_3
              refine lv_iinc (v := nI (c_ + 1)) (lv' := [(5, .int (nI (c_ + 1))), (6, .int (bI z)), (4, .int v), (3, .int (nI o)), (0, .ref (gAd G 81)), (1, .ref (gAd G 9)), (2, .int a0)]) hx hb dX7_fewest_75 hl (k := 1) rfl (nI_1 _) (by decide) rfl (fun ls hl => ?_)
              refine lv_goto (tgt := 20) hx hb dX7_fewest_78 (by decide) ?_
              exact ih20 (c_ + 1) v _ _ _ (by omega) (by rw [kBest, if_neg (fun q => bneg c_3 q.2.2), hv]) hW (lv_sub hl [0, 2, 3, 4, 5, 6] rfl)
            · skip
              replace c_3 : (kAll (sNote σ a0 (nI o) D mi (240 - mi)).1 (fun r => kSil (σ 20) D a0 r (nI c_)) (sNote σ a0 (nI o) D mi (240 - mi)).2 0) = true := bI_ne0.mp c_3
              refine lv_iload hx hb dX7_fewest_71 (lv_at hl 1 rfl) ?_
              refine lv_istore (lv' := [(4, .int (nI c_)), (6, .int (bI z)), (5, .int (nI c_)), (3, .int (nI o)), (0, .ref (gAd G 81)), (1, .ref (gAd G 9)), (2, .int a0)]) hx hb dX7_fewest_73 hl (by decide) rfl (fun ls hl => ?_)
              refine lv_iinc (v := nI (c_ + 1)) (lv' := [(5, .int (nI (c_ + 1))), (4, .int (nI c_)), (6, .int (bI z)), (3, .int (nI o)), (0, .ref (gAd G 81)), (1, .ref (gAd G 9)), (2, .int a0)]) hx hb dX7_fewest_75 hl (k := 2) rfl (nI_1 _) (by decide) rfl (fun ls hl => ?_)
              refine lv_goto (tgt := 20) hx hb dX7_fewest_78 (by decide) ?_
              exact ih20 (c_ + 1) (nI c_) _ _ _ (by omega) (by rw [kBest, if_pos ⟨c_1, by rw [← hv]; exact of_decide_eq_true (Eq.trans hz.symm c_2) , c_3⟩]) hW (lv_sub hl [0, 1, 3, 4, 5, 6] rfl)
      refine lv_iload hx hb dX7_fewest_26 (lv_at hl 0 rfl) ?_
      refine g_callsI (r := kBC (nI c_)) (σ' := gu (va_up σ 82 ((sNote σ a0 (nI o) D mi (240 - mi)).1)) 81 1 (nI (sNote σ a0 (nI o) D mi (240 - mi)).2)) (rest := []) (As := [.int (nI c_)]) C hW ks_X7_23 (k_bitCount l G (gu (va_up σ 82 ((sNote σ a0 (nI o) D mi (240 - mi)).1)) 81 1 (nI (sNote σ a0 (nI o) D mi (240 - mi)).2)) τ (nI c_)) ⟨Nat.le_of_ble_eq_true rfl, Nat.le_of_ble_eq_true rfl⟩ ⟨Nat.le_refl _, Nat.le_refl _⟩ rfl hl.1 rfl (Nat.le_of_ble_eq_true rfl) dX7_fewest_28 (fun H locs hW => ?_)
      refine lv_iload hx hb dX7_fewest_31 (lv_at hl 1 rfl) ?_
      refine g_callsI (r := kBC v) (σ' := gu (va_up σ 82 ((sNote σ a0 (nI o) D mi (240 - mi)).1)) 81 1 (nI (sNote σ a0 (nI o) D mi (240 - mi)).2)) (rest := [.int (kBC (nI c_))]) (As := [.int v]) C hW ks_X7_23 (k_bitCount l G (gu (va_up σ 82 ((sNote σ a0 (nI o) D mi (240 - mi)).1)) 81 1 (nI (sNote σ a0 (nI o) D mi (240 - mi)).2)) τ v) ⟨Nat.le_of_ble_eq_true rfl, Nat.le_of_ble_eq_true rfl⟩ ⟨Nat.le_refl _, Nat.le_refl _⟩ rfl hl.1 rfl (Nat.le_of_ble_eq_true rfl) dX7_fewest_33 (fun H locs hW => ?_)
      refine lv_icmp_ge (tgt := 43) hx hb dX7_fewest_36 (by decide) (fun c_4 => ?_) (fun c_4 => ?_)
      · skip
        refine lv_iconst (v := 0) hx hb dX7_fewest_43 (by decide) ?_
        exact K44 false (by exact (decide_eq_false (not_not_intro c_4)).symm) _ _ _ hW (lv_sub hl [0, 1, 2, 3, 4, 5] rfl)
      · skip
        refine lv_iconst (v := 1) hx hb dX7_fewest_39 (by decide) ?_
        refine lv_goto (tgt := 44) hx hb dX7_fewest_40 (by decide) ?_
        exact K44 true (by exact (decide_eq_true c_4).symm) _ _ _ hW (lv_sub hl [0, 1, 2, 3, 4, 5] rfl)
  exact L20 o 0 (nI o) _ _ _ (by omega) (by first | rfl | simp [bI]) hW (lv_sub hl [0, 1, 2, 3, 4, 5] rfl)
