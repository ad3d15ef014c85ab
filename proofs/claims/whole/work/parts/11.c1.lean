/-! ===== the class: moments and plans ===== -/
def gMomB (i : Nat) : Bool := decide (i + 4 < 112) && (decide (gkind i = 3) && (decide (gkind (i + 1) = 11 ∧ glen (i + 1) = 5) && (decide (gkind (i + 2) = 11 ∧ glen (i + 2) = 5) && (decide (gkind (i + 3) = 11 ∧ glen (i + 3) = 5) && decide (gkind (i + 4) = 11 ∧ glen (i + 4) = 8)))))
def gMom (i : Nat) : Prop := gMomB i = true
theorem gMom.all {i : Nat} (h : gMom i) : i + 4 < 112 ∧ gkind i = 3 ∧ (gkind (i + 1) = 11 ∧ glen (i + 1) = 5) ∧ (gkind (i + 2) = 11 ∧ glen (i + 2) = 5) ∧ (gkind (i + 3) = 11 ∧ glen (i + 3) = 5) ∧ (gkind (i + 4) = 11 ∧ glen (i + 4) = 8) := by
  simpa [gMom, gMomB] using h
theorem gmomL (i : Nat) (h : gMomB i = true) : gMom i := h
theorem gmomH (j : Nat) (h : j < 10) : gMom (22 + 1 + 5 * j) := (by decide : ∀ j, j < 10 → gMomB (22 + 1 + 5 * j) = true) j h
theorem gmomI (j : Nat) (h : j < 2) : gMom (84 + 1 + 5 * j) := (by decide : ∀ j, j < 2 → gMomB (84 + 1 + 5 * j) = true) j h
theorem gmom_i0 {i : Nat} (h : gMom i) : i < 112 := by have := h.all.1; omega
theorem gmom_k0 {i : Nat} (h : gMom i) : gkind i = 3 := h.all.2.1
theorem gmom_i1 {i : Nat} (h : gMom i) : i + 1 < 112 := by have := h.all.1; omega
theorem gmom_k1 {i : Nat} (h : gMom i) : gkind (i + 1) = 11 := h.all.2.2.1.1
theorem gmom_l1 {i : Nat} (h : gMom i) : glen (i + 1) = 5 := h.all.2.2.1.2
theorem gmom_s1 {i : Nat} (h : gMom i) : glen (i + 1) < 2 ^ 31 := by rw [gmom_l1 h]; decide
theorem gmom_i2 {i : Nat} (h : gMom i) : i + 2 < 112 := by have := h.all.1; omega
theorem gmom_k2 {i : Nat} (h : gMom i) : gkind (i + 2) = 11 := h.all.2.2.2.1.1
theorem gmom_l2 {i : Nat} (h : gMom i) : glen (i + 2) = 5 := h.all.2.2.2.1.2
theorem gmom_s2 {i : Nat} (h : gMom i) : glen (i + 2) < 2 ^ 31 := by rw [gmom_l2 h]; decide
theorem gmom_i3 {i : Nat} (h : gMom i) : i + 3 < 112 := by have := h.all.1; omega
theorem gmom_k3 {i : Nat} (h : gMom i) : gkind (i + 3) = 11 := h.all.2.2.2.2.1.1
theorem gmom_l3 {i : Nat} (h : gMom i) : glen (i + 3) = 5 := h.all.2.2.2.2.1.2
theorem gmom_s3 {i : Nat} (h : gMom i) : glen (i + 3) < 2 ^ 31 := by rw [gmom_l3 h]; decide
theorem gmom_i4 {i : Nat} (h : gMom i) : i + 4 < 112 := by have := h.all.1; omega
theorem gmom_k4 {i : Nat} (h : gMom i) : gkind (i + 4) = 11 := h.all.2.2.2.2.2.1
theorem gmom_l4 {i : Nat} (h : gMom i) : glen (i + 4) = 8 := h.all.2.2.2.2.2.2
theorem gmom_s4 {i : Nat} (h : gMom i) : glen (i + 4) < 2 ^ 31 := by rw [gmom_l4 h]; decide
/-- a row's first n places are put into another row -/
def gcpy (σ : gSt) (d s n : Nat) : gSt := va_up σ d (va_cpy (σ s) (σ d) 0 0 n)
theorem gcpy_ne {σ : gSt} {d s n c : Nat} (h : c ≠ d) : gcpy σ d s n c = σ c := by simp [gcpy, va_up, h]
theorem gcpy_at {σ : gSt} {d s n j : Nat} (h : j < n) : gcpy σ d s n d j = σ s j := by simp [gcpy, va_up, va_cpy, h]
def kTake (σ : gSt) (i o : Nat) : gSt := gcpy (gcpy (gcpy (gcpy (gu (gu σ i 0 (σ o 0)) i 1 (gu σ i 0 (σ o 0) o 1)) (i + 1) (o + 1) 5) (i + 2) (o + 2) 5) (i + 3) (o + 3) 5) (i + 4) (o + 4) 8
theorem kTake_ne {σ : gSt} {i o c : Nat} (h : c < i ∨ i + 4 < c) : kTake σ i o c = σ c := by
  rw [kTake, gcpy_ne (by omega), gcpy_ne (by omega), gcpy_ne (by omega), gcpy_ne (by omega), gu_ne (by omega), gu_ne (by omega)]
def kBegP (σ : gSt) : Nat → gSt
  | 0 => σ
  | p + 1 => gu (gu (gu (kBegP σ p) 17 p (kBegP σ p 11 p)) 18 p 0) 19 p 0
def kBegin (σ : gSt) : gSt := gcpy (kBegP (gu (gu σ 16 0 0) 16 1 0) 5) 20 12 8
def kReset (σ : gSt) : gSt := gu (gu (gu (gu (gu σ 3 0 2) 3 1 0) 3 2 0) 3 3 2) 3 4 3
def kPlan (σ : gSt) : gSt := gcpy (gcpy (gcpy (gcpy (gcpy (gu (gu (gu (gu (gu σ 10 0 (σ 3 0)) 10 1 (σ 3 1)) 10 2 (σ 3 2)) 10 3 (σ 3 3)) 10 4 (σ 3 4)) 11 4 5) 12 5 8) 13 6 8) 14 7 8) 15 8 8
def kIs (x n : Int32) : Bool := !decide (x < 0) && !decide (n ≤ x)
def kBit (x k : Int32) : Int32 := (x >>> (k &&& 31)) &&& 1
def kAbs (x : Int32) : Int32 := if 0 ≤ x then x else 0 - x
def kMB (wk a b : Int32) : Int32 := wk * kAbs (a - b)
def kRem (σ : gSt) (j u : Nat) : gSt := gu (gu (kTake σ (22 + 1 + 5 * j) 16) 21 2 (nI ((j + 1) % 10))) 21 1 (nI (min (u + 1) 10))
def kRes (σ : gSt) (j u : Nat) : gSt := if u = 0 then σ else kTake (gu (gu σ 21 2 (nI ((j + 10 - 1) % 10))) 21 1 (nI (u - 1))) 16 (22 + 1 + 5 * ((j + 10 - 1) % 10))
theorem kmin {u : Nat} (h : u ≤ 10) : (if (10 : Int32) < nI u + 1 then 10 else nI u + 1) = nI (min (u + 1) 10) := by
  rw [nI_1, show (10 : Int32) = nI 10 from rfl]
  rcases Nat.lt_or_ge 10 (u + 1) with q | q
  · rw [if_pos (nI_lt q (by omega)), Nat.min_eq_right (by omega)]
  · rw [if_neg (nI_nlt q (by omega)), Nat.min_eq_left q]
theorem krem10 {a : Nat} (h : a < 2 ^ 31) : nI a - nI a / 10 * 10 = nI (a % 10) := pk_rem (d := 10) h (by decide) (by decide)
def kPow (b : Int32) : Nat → Int32
  | 0 => 1
  | k + 1 => kPow b k * b
def bc1 (x : Int32) : Int32 := x - ((x.toUInt32 >>> (Int32.toUInt32 1 &&& Int32.toUInt32 31)).toInt32 &&& 1431655765)
def bc2 (x : Int32) : Int32 := (x &&& 858993459) + ((x.toUInt32 >>> (Int32.toUInt32 2 &&& Int32.toUInt32 31)).toInt32 &&& 858993459)
def bc3 (x : Int32) : Int32 := (x + (x.toUInt32 >>> (Int32.toUInt32 4 &&& Int32.toUInt32 31)).toInt32) &&& 252645135
def bc4 (x : Int32) : Int32 := x + (x.toUInt32 >>> (Int32.toUInt32 8 &&& Int32.toUInt32 31)).toInt32
def bc5 (x : Int32) : Int32 := x + (x.toUInt32 >>> (Int32.toUInt32 16 &&& Int32.toUInt32 31)).toInt32
def kBC (x : Int32) : Int32 := bc5 (bc4 (bc3 (bc2 (bc1 x)))) &&& 63
set_option maxHeartbeats 4000000 in
set_option maxRecDepth 100000 in
theorem k_take (l : Launch) (G : gG) (σ : gSt) (τ : Nat → Int64) (i o : Nat) (hi : gMom i) (ho : gMom o) : gV l yX3_take cX3_take 2 (none : Option Jvm.ClassFile.FieldType) 1 40 G [.ref (gAd G i), .ref (gAd G o)] σ τ (kTake σ i o) τ := by
  refine gMet_of (by decide) (Nat.le_of_ble_eq_true rfl) ?_
  intro p e s m args below meth c C hr hlk ls hl hW
  have hx := C.1
  have hb := C.2.1
  have hl : lv_has ls 2 [(0, .ref (gAd G i)), (1, .ref (gAd G o))] := hl
  refine lv_aload_n hx hb dX3_take_0 rfl (lv_at hl 0 rfl) ?_
  refine lv_aload_n hx hb dX3_take_1 rfl (lv_at hl 1 rfl) ?_
  refine gf_X3_24 (v := σ o 0) C hW (gmom_i0 ho) (gmom_k0 ho) rfl dX3_take_2 ?_
  refine gp_X3_24 C hW (gmom_i0 hi) (gmom_k0 hi) dX3_take_5 (fun H locs hW => ?_)
  refine lv_aload_n hx hb dX3_take_8 rfl (lv_at hl 0 rfl) ?_
  refine lv_aload_n hx hb dX3_take_9 rfl (lv_at hl 1 rfl) ?_
  refine gf_X3_28 (v := (gu σ i 0 (σ o 0)) o 1) C hW (gmom_i0 ho) (gmom_k0 ho) rfl dX3_take_10 ?_
  refine gp_X3_28 C hW (gmom_i0 hi) (gmom_k0 hi) dX3_take_13 (fun H locs hW => ?_)
  refine lv_aload_n hx hb dX3_take_16 rfl (lv_at hl 1 rfl) ?_
  refine gf_X3_9 C hW (gmom_i0 ho) (gmom_k0 ho) dX3_take_17 ?_
  refine lv_iconst (v := 0) hx hb dX3_take_20 (by decide) ?_
  refine lv_aload_n hx hb dX3_take_21 rfl (lv_at hl 0 rfl) ?_
  refine gf_X3_9 C hW (gmom_i0 hi) (gmom_k0 hi) dX3_take_22 ?_
  refine lv_iconst (v := 0) hx hb dX3_take_25 (by decide) ?_
  refine lv_iconst (v := 5) hx hb dX3_take_26 (by decide) ?_
  refine g_copy (n := 5) C hW hl.1 kml_X3_39 (gmom_i1 ho) (gmom_i1 hi) (gmom_k1 ho) (gmom_k1 hi) rfl (by rw [(gmom_l1 ho)]; decide) (by rw [(gmom_l1 hi)]; decide) (by decide) (Nat.le_of_ble_eq_true rfl) (Nat.le_of_ble_eq_true rfl) dX3_take_27 (fun H locs hW => ?_)
  refine lv_aload_n hx hb dX3_take_30 rfl (lv_at hl 1 rfl) ?_
  refine gf_X3_15 C hW (gmom_i0 ho) (gmom_k0 ho) dX3_take_31 ?_
  refine lv_iconst (v := 0) hx hb dX3_take_34 (by decide) ?_
  refine lv_aload_n hx hb dX3_take_35 rfl (lv_at hl 0 rfl) ?_
  refine gf_X3_15 C hW (gmom_i0 hi) (gmom_k0 hi) dX3_take_36 ?_
  refine lv_iconst (v := 0) hx hb dX3_take_39 (by decide) ?_
  refine lv_iconst (v := 5) hx hb dX3_take_40 (by decide) ?_
  refine g_copy (n := 5) C hW hl.1 kml_X3_39 (gmom_i2 ho) (gmom_i2 hi) (gmom_k2 ho) (gmom_k2 hi) rfl (by rw [(gmom_l2 ho)]; decide) (by rw [(gmom_l2 hi)]; decide) (by decide) (Nat.le_of_ble_eq_true rfl) (Nat.le_of_ble_eq_true rfl) dX3_take_41 (fun H locs hW => ?_)
  refine lv_aload_n hx hb dX3_take_44 rfl (lv_at hl 1 rfl) ?_
  refine gf_X3_18 C hW (gmom_i0 ho) (gmom_k0 ho) dX3_take_45 ?_
  refine lv_iconst (v := 0) hx hb dX3_take_48 (by decide) ?_
  refine lv_aload_n hx hb dX3_take_49 rfl (lv_at hl 0 rfl) ?_
  refine gf_X3_18 C hW (gmom_i0 hi) (gmom_k0 hi) dX3_take_50 ?_
  refine lv_iconst (v := 0) hx hb dX3_take_53 (by decide) ?_
  refine lv_iconst (v := 5) hx hb dX3_take_54 (by decide) ?_
  refine g_copy (n := 5) C hW hl.1 kml_X3_39 (gmom_i3 ho) (gmom_i3 hi) (gmom_k3 ho) (gmom_k3 hi) rfl (by rw [(gmom_l3 ho)]; decide) (by rw [(gmom_l3 hi)]; decide) (by decide) (Nat.le_of_ble_eq_true rfl) (Nat.le_of_ble_eq_true rfl) dX3_take_55 (fun H locs hW => ?_)
  refine lv_aload_n hx hb dX3_take_58 rfl (lv_at hl 1 rfl) ?_
  refine gf_X3_21 C hW (gmom_i0 ho) (gmom_k0 ho) dX3_take_59 ?_
  refine lv_iconst (v := 0) hx hb dX3_take_62 (by decide) ?_
  refine lv_aload_n hx hb dX3_take_63 rfl (lv_at hl 0 rfl) ?_
  refine gf_X3_21 C hW (gmom_i0 hi) (gmom_k0 hi) dX3_take_64 ?_
  refine lv_iconst (v := 0) hx hb dX3_take_67 (by decide) ?_
  refine lv_bipush (v := 8) hx hb dX3_take_68 (by decide) ?_
  refine g_copy (n := 8) C hW hl.1 kml_X3_39 (gmom_i4 ho) (gmom_i4 hi) (gmom_k4 ho) (gmom_k4 hi) rfl (by rw [(gmom_l4 ho)]; decide) (by rw [(gmom_l4 hi)]; decide) (by decide) (Nat.le_of_ble_eq_true rfl) (Nat.le_of_ble_eq_true rfl) dX3_take_70 (fun H locs hW => ?_)
  exact g_vret C hr hlk hW dX3_take_73 (rfl) (rfl)
set_option maxHeartbeats 4000000 in
set_option maxRecDepth 100000 in
theorem k_begin (l : Launch) (G : gG) (σ : gSt) (τ : Nat → Int64) : gV l yX3_begin cX3_begin 3 (none : Option Jvm.ClassFile.FieldType) 1 40 G [.ref (gAd G 16), .ref (gAd G 10)] σ τ (kBegin σ) τ := by
  refine gMet_of (by decide) (Nat.le_of_ble_eq_true rfl) ?_
  intro p e s m args below meth c C hr hlk ls hl hW
  have hx := C.1
  have hb := C.2.1
  have hl : lv_has ls 3 [(0, .ref (gAd G 16)), (1, .ref (gAd G 10))] := hl
  refine lv_aload_n hx hb dX3_begin_0 rfl (lv_at hl 0 rfl) ?_
  refine lv_iconst (v := 0) hx hb dX3_begin_1 (by decide) ?_
  refine gp_X3_24 C hW (by decide) rfl dX3_begin_2 (fun H locs hW => ?_)
  refine lv_aload_n hx hb dX3_begin_5 rfl (lv_at hl 0 rfl) ?_
  refine lv_iconst (v := 0) hx hb dX3_begin_6 (by decide) ?_
  refine gp_X3_28 C hW (by decide) rfl dX3_begin_7 (fun H locs hW => ?_)
  refine lv_iconst (v := 0) hx hb dX3_begin_10 (by decide) ?_
  refine lv_istore_n (lv' := [(2, .int 0), (0, .ref (gAd G 16)), (1, .ref (gAd G 10))]) hx hb dX3_begin_11 rfl hl (by decide) rfl (fun ls hl => ?_)
  have L12 : ∀ (n : Nat) (k : Nat) (H : Heap) (locs : List Loc) (ls : Array Slot), n + k = 5 → gW G s (kBegP (gu (gu σ 16 0 0) 16 1 0) k) τ H locs → lv_has ls 3 [(2, .int (nI k)), (0, .ref (gAd G 16)), (1, .ref (gAd G 10))] → W p l e (gRm 1 40) s m args below meth c H locs 0 0 (MQ below (gQv G (kBegin σ) τ) args s 0 0 (gA G)) (F0 m 12 ls []) := by
    intro n
    induction n with
    | zero =>
      intro k H locs ls hm hW hl
      refine lv_iload_n hx hb dX3_begin_12 rfl (lv_at hl 0 rfl) ?_
      refine lv_iconst (v := 5) hx hb dX3_begin_13 (by decide) ?_
      refine lv_icmp_ge (tgt := 49) hx hb dX3_begin_14 (by decide) (fun _ => ?_) (fun zz => absurd (show nI 5 ≤ nI k from nI_le (by omega) (by omega)) zz)
      have hk : k = 5 := by omega
      subst hk
      refine lv_aload_n hx hb dX3_begin_49 rfl (lv_at hl 2 rfl) ?_
      refine gf_X3_36 C hW (by decide) rfl dX3_begin_50 ?_
      refine lv_iconst (v := 0) hx hb dX3_begin_53 (by decide) ?_
      refine lv_aload_n hx hb dX3_begin_54 rfl (lv_at hl 1 rfl) ?_
      refine gf_X3_21 C hW (by decide) rfl dX3_begin_55 ?_
      refine lv_iconst (v := 0) hx hb dX3_begin_58 (by decide) ?_
      refine lv_bipush (v := 8) hx hb dX3_begin_59 (by decide) ?_
      refine g_copy (n := 8) C hW hl.1 kml_X3_39 (by decide) (by decide) rfl rfl rfl (by decide) (by decide) (by decide) (Nat.le_of_ble_eq_true rfl) (Nat.le_of_ble_eq_true rfl) dX3_begin_61 (fun H locs hW => ?_)
      exact g_vret C hr hlk hW dX3_begin_64 (rfl) (rfl)
    | succ n ih12 =>
      intro k H locs ls hm hW hl
      refine lv_iload_n hx hb dX3_begin_12 rfl (lv_at hl 0 rfl) ?_
      refine lv_iconst (v := 5) hx hb dX3_begin_13 (by decide) ?_
      refine lv_icmp_ge (tgt := 49) hx hb dX3_begin_14 (by decide) (fun zz => absurd zz (show ¬ nI 5 ≤ nI k from nI_ge (by omega) (by omega))) (fun _ => ?_)
      refine lv_aload_n hx hb dX3_begin_17 rfl (lv_at hl 1 rfl) ?_
      refine gf_X3_9 C hW (by decide) rfl dX3_begin_18 ?_
      refine lv_iload_n hx hb dX3_begin_21 rfl (lv_at hl 0 rfl) ?_
      refine lv_aload_n hx hb dX3_begin_22 rfl (lv_at hl 2 rfl) ?_
      refine gf_X3_31 C hW (by decide) rfl dX3_begin_23 ?_
      refine lv_iload_n hx hb dX3_begin_26 rfl (lv_at hl 0 rfl) ?_
      refine g_ald (v := (kBegP (gu (gu σ 16 0 0) 16 1 0) k) 11 k) k C hW (by decide) rfl rfl (show k < 5 by omega) (by decide) rfl dX3_begin_27 ?_
      refine g_ast k C hW (by decide) rfl rfl (show k < 5 by omega) (by decide) dX3_begin_28 (fun H locs hW => ?_)
      refine lv_aload_n hx hb dX3_begin_29 rfl (lv_at hl 1 rfl) ?_
      refine gf_X3_15 C hW (by decide) rfl dX3_begin_30 ?_
      refine lv_iload_n hx hb dX3_begin_33 rfl (lv_at hl 0 rfl) ?_
      refine lv_iconst (v := 0) hx hb dX3_begin_34 (by decide) ?_
      refine g_ast k C hW (by decide) rfl rfl (show k < 5 by omega) (by decide) dX3_begin_35 (fun H locs hW => ?_)
      refine lv_aload_n hx hb dX3_begin_36 rfl (lv_at hl 1 rfl) ?_
      refine gf_X3_18 C hW (by decide) rfl dX3_begin_37 ?_
      refine lv_iload_n hx hb dX3_begin_40 rfl (lv_at hl 0 rfl) ?_
      refine lv_iconst (v := 0) hx hb dX3_begin_41 (by decide) ?_
      refine g_ast k C hW (by decide) rfl rfl (show k < 5 by omega) (by decide) dX3_begin_42 (fun H locs hW => ?_)
      refine lv_iinc (v := nI (k + 1)) (lv' := [(2, .int (nI (k + 1))), (0, .ref (gAd G 16)), (1, .ref (gAd G 10))]) hx hb dX3_begin_43 hl (k := 0) rfl (nI_1 _) (by decide) rfl (fun ls hl => ?_)
      refine lv_goto (tgt := 12) hx hb dX3_begin_46 (by decide) ?_
      exact ih12 (k + 1) _ _ _ (by omega)  (by rw [kBegP]; exact hW) (lv_sub hl [0, 1, 2] rfl)
  exact L12 5 0 _ _ _ (by omega)  hW (lv_sub hl [0, 1, 2] rfl)
set_option maxHeartbeats 4000000 in
set_option maxRecDepth 100000 in
theorem k_reset (l : Launch) (G : gG) (σ : gSt) (τ : Nat → Int64) : gV l yX4_reset cX4_reset 1 (none : Option Jvm.ClassFile.FieldType) 0 0 G [.ref (gAd G 3)] σ τ (kReset σ) τ := by
  refine gMet_of (by decide) (Nat.le_of_ble_eq_true rfl) ?_
  intro p e s m args below meth c C hr hlk ls hl hW
  have hx := C.1
  have hb := C.2.1
  have hl : lv_has ls 1 [(0, .ref (gAd G 3))] := hl
  refine lv_aload_n hx hb dX4_reset_0 rfl (lv_at hl 0 rfl) ?_
  refine lv_iconst (v := 2) hx hb dX4_reset_1 (by decide) ?_
  refine gp_X4_9 C hW (by decide) rfl dX4_reset_2 (fun H locs hW => ?_)
  refine lv_aload_n hx hb dX4_reset_5 rfl (lv_at hl 0 rfl) ?_
  refine lv_iconst (v := 0) hx hb dX4_reset_6 (by decide) ?_
  refine gp_X4_37 C hW (by decide) rfl dX4_reset_7 (fun H locs hW => ?_)
  refine lv_aload_n hx hb dX4_reset_10 rfl (lv_at hl 0 rfl) ?_
  refine lv_iconst (v := 0) hx hb dX4_reset_11 (by decide) ?_
  refine gp_X4_40 C hW (by decide) rfl dX4_reset_12 (fun H locs hW => ?_)
  refine lv_aload_n hx hb dX4_reset_15 rfl (lv_at hl 0 rfl) ?_
  refine lv_iconst (v := 2) hx hb dX4_reset_16 (by decide) ?_
  refine gp_X4_15 C hW (by decide) rfl dX4_reset_17 (fun H locs hW => ?_)
  refine lv_aload_n hx hb dX4_reset_20 rfl (lv_at hl 0 rfl) ?_
  refine lv_iconst (v := 3) hx hb dX4_reset_21 (by decide) ?_
  refine gp_X4_18 C hW (by decide) rfl dX4_reset_22 (fun H locs hW => ?_)
  exact g_vret C hr hlk hW dX4_reset_25 (rfl) (rfl)
set_option maxHeartbeats 4000000 in
set_option maxRecDepth 100000 in
theorem k_plan (l : Launch) (G : gG) (σ : gSt) (τ : Nat → Int64) : gV l yX4_take cX4_take 2 (none : Option Jvm.ClassFile.FieldType) 1 40 G [.ref (gAd G 10), .ref (gAd G 3)] σ τ (kPlan σ) τ := by
  refine gMet_of (by decide) (Nat.le_of_ble_eq_true rfl) ?_
  intro p e s m args below meth c C hr hlk ls hl hW
  have hx := C.1
  have hb := C.2.1
  have hl : lv_has ls 2 [(0, .ref (gAd G 10)), (1, .ref (gAd G 3))] := hl
  refine lv_aload_n hx hb dX4_take_0 rfl (lv_at hl 0 rfl) ?_
  refine lv_aload_n hx hb dX4_take_1 rfl (lv_at hl 1 rfl) ?_
  refine gf_X4_9 (v := σ 3 0) C hW (by decide) rfl rfl dX4_take_2 ?_
  refine gp_X4_9 C hW (by decide) rfl dX4_take_5 (fun H locs hW => ?_)
  refine lv_aload_n hx hb dX4_take_8 rfl (lv_at hl 0 rfl) ?_
  refine lv_aload_n hx hb dX4_take_9 rfl (lv_at hl 1 rfl) ?_
  refine gf_X4_37 (v := σ 3 1) C hW (by decide) rfl rfl dX4_take_10 ?_
  refine gp_X4_37 C hW (by decide) rfl dX4_take_13 (fun H locs hW => ?_)
  refine lv_aload_n hx hb dX4_take_16 rfl (lv_at hl 0 rfl) ?_
  refine lv_aload_n hx hb dX4_take_17 rfl (lv_at hl 1 rfl) ?_
  refine gf_X4_40 (v := σ 3 2) C hW (by decide) rfl rfl dX4_take_18 ?_
  refine gp_X4_40 C hW (by decide) rfl dX4_take_21 (fun H locs hW => ?_)
  refine lv_aload_n hx hb dX4_take_24 rfl (lv_at hl 0 rfl) ?_
  refine lv_aload_n hx hb dX4_take_25 rfl (lv_at hl 1 rfl) ?_
  refine gf_X4_15 (v := σ 3 3) C hW (by decide) rfl rfl dX4_take_26 ?_
  refine gp_X4_15 C hW (by decide) rfl dX4_take_29 (fun H locs hW => ?_)
  refine lv_aload_n hx hb dX4_take_32 rfl (lv_at hl 0 rfl) ?_
  refine lv_aload_n hx hb dX4_take_33 rfl (lv_at hl 1 rfl) ?_
  refine gf_X4_18 (v := σ 3 4) C hW (by decide) rfl rfl dX4_take_34 ?_
  refine gp_X4_18 C hW (by decide) rfl dX4_take_37 (fun H locs hW => ?_)
  refine lv_aload_n hx hb dX4_take_40 rfl (lv_at hl 1 rfl) ?_
  refine gf_X4_21 C hW (by decide) rfl dX4_take_41 ?_
  refine lv_iconst (v := 0) hx hb dX4_take_44 (by decide) ?_
  refine lv_aload_n hx hb dX4_take_45 rfl (lv_at hl 0 rfl) ?_
  refine gf_X4_21 C hW (by decide) rfl dX4_take_46 ?_
  refine lv_iconst (v := 0) hx hb dX4_take_49 (by decide) ?_
  refine lv_iconst (v := 5) hx hb dX4_take_50 (by decide) ?_
  refine g_copy (n := 5) C hW hl.1 kml_X4_43 (by decide) (by decide) rfl rfl rfl (by decide) (by decide) (by decide) (Nat.le_of_ble_eq_true rfl) (Nat.le_of_ble_eq_true rfl) dX4_take_51 (fun H locs hW => ?_)
  refine lv_aload_n hx hb dX4_take_54 rfl (lv_at hl 1 rfl) ?_
  refine gf_X4_25 C hW (by decide) rfl dX4_take_55 ?_
  refine lv_iconst (v := 0) hx hb dX4_take_58 (by decide) ?_
  refine lv_aload_n hx hb dX4_take_59 rfl (lv_at hl 0 rfl) ?_
  refine gf_X4_25 C hW (by decide) rfl dX4_take_60 ?_
  refine lv_iconst (v := 0) hx hb dX4_take_63 (by decide) ?_
  refine lv_bipush (v := 8) hx hb dX4_take_64 (by decide) ?_
  refine g_copy (n := 8) C hW hl.1 kml_X4_43 (by decide) (by decide) rfl rfl rfl (by decide) (by decide) (by decide) (Nat.le_of_ble_eq_true rfl) (Nat.le_of_ble_eq_true rfl) dX4_take_66 (fun H locs hW => ?_)
  refine lv_aload_n hx hb dX4_take_69 rfl (lv_at hl 1 rfl) ?_
  refine gf_X4_28 C hW (by decide) rfl dX4_take_70 ?_
  refine lv_iconst (v := 0) hx hb dX4_take_73 (by decide) ?_
  refine lv_aload_n hx hb dX4_take_74 rfl (lv_at hl 0 rfl) ?_
  refine gf_X4_28 C hW (by decide) rfl dX4_take_75 ?_
  refine lv_iconst (v := 0) hx hb dX4_take_78 (by decide) ?_
  refine lv_bipush (v := 8) hx hb dX4_take_79 (by decide) ?_
  refine g_copy (n := 8) C hW hl.1 kml_X4_43 (by decide) (by decide) rfl rfl rfl (by decide) (by decide) (by decide) (Nat.le_of_ble_eq_true rfl) (Nat.le_of_ble_eq_true rfl) dX4_take_81 (fun H locs hW => ?_)
  refine lv_aload_n hx hb dX4_take_84 rfl (lv_at hl 1 rfl) ?_
  refine gf_X4_31 C hW (by decide) rfl dX4_take_85 ?_
  refine lv_iconst (v := 0) hx hb dX4_take_88 (by decide) ?_
  refine lv_aload_n hx hb dX4_take_89 rfl (lv_at hl 0 rfl) ?_
  refine gf_X4_31 C hW (by decide) rfl dX4_take_90 ?_
  refine lv_iconst (v := 0) hx hb dX4_take_93 (by decide) ?_
  refine lv_bipush (v := 8) hx hb dX4_take_94 (by decide) ?_
  refine g_copy (n := 8) C hW hl.1 kml_X4_43 (by decide) (by decide) rfl rfl rfl (by decide) (by decide) (by decide) (Nat.le_of_ble_eq_true rfl) (Nat.le_of_ble_eq_true rfl) dX4_take_96 (fun H locs hW => ?_)
  refine lv_aload_n hx hb dX4_take_99 rfl (lv_at hl 1 rfl) ?_
  refine gf_X4_34 C hW (by decide) rfl dX4_take_100 ?_
  refine lv_iconst (v := 0) hx hb dX4_take_103 (by decide) ?_
  refine lv_aload_n hx hb dX4_take_104 rfl (lv_at hl 0 rfl) ?_
  refine gf_X4_34 C hW (by decide) rfl dX4_take_105 ?_
  refine lv_iconst (v := 0) hx hb dX4_take_108 (by decide) ?_
  refine lv_bipush (v := 8) hx hb dX4_take_109 (by decide) ?_
  refine g_copy (n := 8) C hW hl.1 kml_X4_43 (by decide) (by decide) rfl rfl rfl (by decide) (by decide) (by decide) (Nat.le_of_ble_eq_true rfl) (Nat.le_of_ble_eq_true rfl) dX4_take_111 (fun H locs hW => ?_)
  exact g_vret C hr hlk hW dX4_take_114 (rfl) (rfl)
set_option maxHeartbeats 4000000 in
set_option maxRecDepth 100000 in
theorem k_isPlace (l : Launch) (G : gG) (σ : gSt) (τ : Nat → Int64) (a0 : Int32) : gI l yX4_isPlace cX4_isPlace 2 (some .boolean) 0 0 G [.ref (gAd G 10), .int a0] σ τ (bI (kIs a0 (σ 10 0))) σ τ := by
  refine gMet_of (by decide) (Nat.le_of_ble_eq_true rfl) ?_
  intro p e s m args below meth c C hr hlk ls hl hW
  have hx := C.1
  have hb := C.2.1
  have hl : lv_has ls 2 [(0, .ref (gAd G 10)), (1, .int a0)] := hl
  refine lv_iload_n hx hb dX4_isPlace_0 rfl (lv_at hl 1 rfl) ?_
  refine lv_if_lt (tgt := 16) hx hb dX4_isPlace_1 (by decide) (fun c_1 => ?_) (fun c_1 => ?_)
  · skip
    refine lv_iconst (v := 0) hx hb dX4_isPlace_16 (by decide) ?_
    exact g_zret C hr hlk hW dX4_isPlace_17 (rfl) (by simp [bI, kIs, c_1]) (rfl) (rfl)
  · skip
    refine lv_iload_n hx hb dX4_isPlace_4 rfl (lv_at hl 1 rfl) ?_
    refine lv_aload_n hx hb dX4_isPlace_5 rfl (lv_at hl 0 rfl) ?_
    refine gf_X4_9 (v := σ 10 0) C hW (by decide) rfl rfl dX4_isPlace_6 ?_
    refine lv_icmp_ge (tgt := 16) hx hb dX4_isPlace_9 (by decide) (fun c_2 => ?_) (fun c_2 => ?_)
    · skip
      refine lv_iconst (v := 0) hx hb dX4_isPlace_16 (by decide) ?_
      exact g_zret C hr hlk hW dX4_isPlace_17 (rfl) (by simp [bI, kIs, c_1, c_2]) (rfl) (rfl)
    · skip
      refine lv_iconst (v := 1) hx hb dX4_isPlace_12 (by decide) ?_
      refine lv_goto (tgt := 17) hx hb dX4_isPlace_13 (by decide) ?_
      exact g_zret C hr hlk hW dX4_isPlace_17 (rfl) (by simp [bI, kIs, c_1, c_2]) (rfl) (rfl)
set_option maxHeartbeats 4000000 in
set_option maxRecDepth 100000 in
theorem k_isPerson (l : Launch) (G : gG) (σ : gSt) (τ : Nat → Int64) (a0 : Int32) : gI l yX4_isPerson cX4_isPerson 2 (some .boolean) 0 0 G [.ref (gAd G 10), .int a0] σ τ (bI (kIs a0 (σ 10 1))) σ τ := by
  refine gMet_of (by decide) (Nat.le_of_ble_eq_true rfl) ?_
  intro p e s m args below meth c C hr hlk ls hl hW
  have hx := C.1
  have hb := C.2.1
  have hl : lv_has ls 2 [(0, .ref (gAd G 10)), (1, .int a0)] := hl
  refine lv_iload_n hx hb dX4_isPerson_0 rfl (lv_at hl 1 rfl) ?_
  refine lv_if_lt (tgt := 16) hx hb dX4_isPerson_1 (by decide) (fun c_1 => ?_) (fun c_1 => ?_)
  · skip
    refine lv_iconst (v := 0) hx hb dX4_isPerson_16 (by decide) ?_
    exact g_zret C hr hlk hW dX4_isPerson_17 (rfl) (by simp [bI, kIs, c_1]) (rfl) (rfl)
  · skip
    refine lv_iload_n hx hb dX4_isPerson_4 rfl (lv_at hl 1 rfl) ?_
    refine lv_aload_n hx hb dX4_isPerson_5 rfl (lv_at hl 0 rfl) ?_
    refine gf_X4_37 (v := σ 10 1) C hW (by decide) rfl rfl dX4_isPerson_6 ?_
    refine lv_icmp_ge (tgt := 16) hx hb dX4_isPerson_9 (by decide) (fun c_2 => ?_) (fun c_2 => ?_)
    · skip
      refine lv_iconst (v := 0) hx hb dX4_isPerson_16 (by decide) ?_
      exact g_zret C hr hlk hW dX4_isPerson_17 (rfl) (by simp [bI, kIs, c_1, c_2]) (rfl) (rfl)
    · skip
      refine lv_iconst (v := 1) hx hb dX4_isPerson_12 (by decide) ?_
      refine lv_goto (tgt := 17) hx hb dX4_isPerson_13 (by decide) ?_
      exact g_zret C hr hlk hW dX4_isPerson_17 (rfl) (by simp [bI, kIs, c_1, c_2]) (rfl) (rfl)
set_option maxHeartbeats 4000000 in
set_option maxRecDepth 100000 in
theorem k_isDuty (l : Launch) (G : gG) (σ : gSt) (τ : Nat → Int64) (a0 : Int32) : gI l yX4_isDuty cX4_isDuty 2 (some .boolean) 0 0 G [.ref (gAd G 10), .int a0] σ τ (bI (kIs a0 (σ 10 2))) σ τ := by
  refine gMet_of (by decide) (Nat.le_of_ble_eq_true rfl) ?_
  intro p e s m args below meth c C hr hlk ls hl hW
  have hx := C.1
  have hb := C.2.1
  have hl : lv_has ls 2 [(0, .ref (gAd G 10)), (1, .int a0)] := hl
  refine lv_iload_n hx hb dX4_isDuty_0 rfl (lv_at hl 1 rfl) ?_
  refine lv_if_lt (tgt := 16) hx hb dX4_isDuty_1 (by decide) (fun c_1 => ?_) (fun c_1 => ?_)
  · skip
    refine lv_iconst (v := 0) hx hb dX4_isDuty_16 (by decide) ?_
    exact g_zret C hr hlk hW dX4_isDuty_17 (rfl) (by simp [bI, kIs, c_1]) (rfl) (rfl)
  · skip
    refine lv_iload_n hx hb dX4_isDuty_4 rfl (lv_at hl 1 rfl) ?_
    refine lv_aload_n hx hb dX4_isDuty_5 rfl (lv_at hl 0 rfl) ?_
    refine gf_X4_40 (v := σ 10 2) C hW (by decide) rfl rfl dX4_isDuty_6 ?_
    refine lv_icmp_ge (tgt := 16) hx hb dX4_isDuty_9 (by decide) (fun c_2 => ?_) (fun c_2 => ?_)
    · skip
      refine lv_iconst (v := 0) hx hb dX4_isDuty_16 (by decide) ?_
      exact g_zret C hr hlk hW dX4_isDuty_17 (rfl) (by simp [bI, kIs, c_1, c_2]) (rfl) (rfl)
    · skip
      refine lv_iconst (v := 1) hx hb dX4_isDuty_12 (by decide) ?_
      refine lv_goto (tgt := 17) hx hb dX4_isDuty_13 (by decide) ?_
      exact g_zret C hr hlk hW dX4_isDuty_17 (rfl) (by simp [bI, kIs, c_1, c_2]) (rfl) (rfl)
set_option maxHeartbeats 4000000 in
set_option maxRecDepth 100000 in
theorem k_isSet (l : Launch) (G : gG) (σ : gSt) (τ : Nat → Int64) (a0 : Int32) : gI l yX4_isSet cX4_isSet 2 (some .boolean) 0 0 G [.ref (gAd G 10), .int a0] σ τ (bI (kIs a0 (1 <<< (σ 10 1 &&& 31)))) σ τ := by
  refine gMet_of (by decide) (Nat.le_of_ble_eq_true rfl) ?_
  intro p e s m args below meth c C hr hlk ls hl hW
  have hx := C.1
  have hb := C.2.1
  have hl : lv_has ls 2 [(0, .ref (gAd G 10)), (1, .int a0)] := hl
  refine lv_iload_n hx hb dX4_isSet_0 rfl (lv_at hl 1 rfl) ?_
  refine lv_if_lt (tgt := 18) hx hb dX4_isSet_1 (by decide) (fun c_1 => ?_) (fun c_1 => ?_)
  · skip
    refine lv_iconst (v := 0) hx hb dX4_isSet_18 (by decide) ?_
    exact g_zret C hr hlk hW dX4_isSet_19 (rfl) (by simp [bI, kIs, c_1]) (rfl) (rfl)
  · skip
    refine lv_iload_n hx hb dX4_isSet_4 rfl (lv_at hl 1 rfl) ?_
    refine lv_iconst (v := 1) hx hb dX4_isSet_5 (by decide) ?_
    refine lv_aload_n hx hb dX4_isSet_6 rfl (lv_at hl 0 rfl) ?_
    refine gf_X4_37 (v := σ 10 1) C hW (by decide) rfl rfl dX4_isSet_7 ?_
    refine lv_ishl hx hb dX4_isSet_10 ?_
    refine lv_icmp_ge (tgt := 18) hx hb dX4_isSet_11 (by decide) (fun c_2 => ?_) (fun c_2 => ?_)
    · skip
      refine lv_iconst (v := 0) hx hb dX4_isSet_18 (by decide) ?_
      exact g_zret C hr hlk hW dX4_isSet_19 (rfl) (by simp [bI, kIs, c_1, c_2]) (rfl) (rfl)
    · skip
      refine lv_iconst (v := 1) hx hb dX4_isSet_14 (by decide) ?_
      refine lv_goto (tgt := 19) hx hb dX4_isSet_15 (by decide) ?_
      exact g_zret C hr hlk hW dX4_isSet_19 (rfl) (by simp [bI, kIs, c_1, c_2]) (rfl) (rfl)
set_option maxHeartbeats 4000000 in
set_option maxRecDepth 100000 in
theorem k_mb (l : Launch) (G : gG) (σ : gSt) (τ : Nat → Int64) (a0 a1 : Int32) : gI l yX4_minutesBetween cX4_minutesBetween 3 (some .int) 1 21 G [.ref (gAd G 10), .int a0, .int a1] σ τ (kMB (σ 10 3) a0 a1) σ τ := by
  refine gMet_of (by decide) (Nat.le_of_ble_eq_true rfl) ?_
  intro p e s m args below meth c C hr hlk ls hl hW
  have hx := C.1
  have hb := C.2.1
  have hl : lv_has ls 3 [(0, .ref (gAd G 10)), (1, .int a0), (2, .int a1)] := hl
  refine lv_aload_n hx hb dX4_minutesBetween_0 rfl (lv_at hl 0 rfl) ?_
  refine gf_X4_15 (v := σ 10 3) C hW (by decide) rfl rfl dX4_minutesBetween_1 ?_
  refine lv_iload_n hx hb dX4_minutesBetween_4 rfl (lv_at hl 1 rfl) ?_
  refine lv_iload_n hx hb dX4_minutesBetween_5 rfl (lv_at hl 2 rfl) ?_
  refine lv_isub hx hb dX4_minutesBetween_6 ?_
  refine g_abs C hl.1 kml_X4_49 (Nat.le_of_ble_eq_true rfl) (Nat.le_of_ble_eq_true rfl) (Nat.le_refl _) (Nat.le_refl _) dX4_minutesBetween_7 ?_
  refine lv_imul hx hb dX4_minutesBetween_10 ?_
  exact g_iret C hr hlk hW dX4_minutesBetween_11 (by rw [kMB, kAbs]) (rfl) (rfl)
set_option maxHeartbeats 4000000 in
set_option maxRecDepth 100000 in
theorem k_rem (l : Launch) (G : gG) (σ : gSt) (τ : Nat → Int64) (j u : Nat) (hj : σ 21 2 = nI j) (hj2 : j < 10) (hu : σ 21 1 = nI u) (hu2 : u ≤ 10) : gV l yX2_remember cX2_remember 2 (none : Option Jvm.ClassFile.FieldType) 2 61 G [.ref (gAd G 21), .ref (gAd G 16)] σ τ (kRem σ j u) τ := by
  refine gMet_of (by decide) (Nat.le_of_ble_eq_true rfl) ?_
  intro p e s m args below meth c C hr hlk ls hl hW
  have hx := C.1
  have hb := C.2.1
  have hl : lv_has ls 2 [(0, .ref (gAd G 21)), (1, .ref (gAd G 16))] := hl
  refine lv_aload_n hx hb dX2_remember_0 rfl (lv_at hl 0 rfl) ?_
  refine gf_X2_11 C hW (by decide) rfl dX2_remember_1 ?_
  refine lv_aload_n hx hb dX2_remember_4 rfl (lv_at hl 0 rfl) ?_
  refine gf_X2_18 (v := nI j) C hW (by decide) rfl hj dX2_remember_5 ?_
  refine g_aald j C hW (by decide) rfl rfl (show j < 10 by omega) (by decide) dX2_remember_8 ?_
  refine lv_aload_n hx hb dX2_remember_9 rfl (lv_at hl 1 rfl) ?_
  refine g_callvV (σ' := kTake σ (22 + 1 + 5 * j) 16) (rest := []) (As := [.ref (gAd G 16)]) C hW kv_X2_22 (22 + 1 + 5 * j) (gmom_i0 (gmomH j (by omega))) (gL_3 (gmom_k0 (gmomH j (by omega)))) rfl (k_take l G σ τ (22 + 1 + 5 * j) 16 (gmomH j (by omega)) (gmomL 16 (by decide))) ⟨Nat.le_of_ble_eq_true rfl, Nat.le_of_ble_eq_true rfl⟩ ⟨Nat.le_refl _, Nat.le_refl _⟩ rfl hl.1 rfl (Nat.le_of_ble_eq_true rfl) dX2_remember_10 (fun H locs hW => ?_)
  refine lv_aload_n hx hb dX2_remember_13 rfl (lv_at hl 0 rfl) ?_
  refine lv_aload_n hx hb dX2_remember_14 rfl (lv_at hl 0 rfl) ?_
  refine gf_X2_18 (v := nI j) C hW (by decide) rfl (by rw [kTake_ne (by omega)]; exact hj) dX2_remember_15 ?_
  refine lv_iconst (v := 1) hx hb dX2_remember_18 (by decide) ?_
  refine lv_iadd hx hb dX2_remember_19 ?_
  refine lv_bipush (v := 10) hx hb dX2_remember_20 (by decide) ?_
  refine lv_irem hx hb dX2_remember_22 (by decide) ?_
  rw [nI_1, krem10 (a := j + 1) (by omega)]
  refine gp_X2_18 C hW (by decide) rfl dX2_remember_23 (fun H locs hW => ?_)
  refine lv_aload_n hx hb dX2_remember_26 rfl (lv_at hl 0 rfl) ?_
  refine lv_aload_n hx hb dX2_remember_27 rfl (lv_at hl 0 rfl) ?_
  refine gf_X2_26 (v := nI u) C hW (by decide) rfl (by show kTake _ _ _ 21 1 = _; rw [kTake_ne (by omega)]; exact hu) dX2_remember_28 ?_
  refine lv_iconst (v := 1) hx hb dX2_remember_31 (by decide) ?_
  refine lv_iadd hx hb dX2_remember_32 ?_
  refine lv_bipush (v := 10) hx hb dX2_remember_33 (by decide) ?_
  refine g_min C hl.1 kml_X2_29 (Nat.le_of_ble_eq_true rfl) (Nat.le_of_ble_eq_true rfl) (Nat.le_refl _) (Nat.le_refl _) dX2_remember_35 ?_
  rw [kmin hu2]
  refine gp_X2_26 C hW (by decide) rfl dX2_remember_38 (fun H locs hW => ?_)
  exact g_vret C hr hlk hW dX2_remember_41 (rfl) (rfl)
set_option maxHeartbeats 4000000 in
set_option maxRecDepth 100000 in
theorem k_res (l : Launch) (G : gG) (σ : gSt) (τ : Nat → Int64) (j u : Nat) (hj : σ 21 2 = nI j) (hj2 : j < 10) (hu : σ 21 1 = nI u) (hu2 : u ≤ 10) : gV l yX2_restore cX2_restore 2 (none : Option Jvm.ClassFile.FieldType) 2 61 G [.ref (gAd G 21), .ref (gAd G 16)] σ τ (kRes σ j u) τ := by
  refine gMet_of (by decide) (Nat.le_of_ble_eq_true rfl) ?_
  intro p e s m args below meth c C hr hlk ls hl hW
  have hx := C.1
  have hb := C.2.1
  have hl : lv_has ls 2 [(0, .ref (gAd G 21)), (1, .ref (gAd G 16))] := hl
  refine lv_aload_n hx hb dX2_restore_0 rfl (lv_at hl 0 rfl) ?_
  refine gf_X2_26 (v := nI u) C hW (by decide) rfl hu dX2_restore_1 ?_
  refine lv_if_ne (tgt := 8) hx hb dX2_restore_4 (by decide) (fun c_1 => ?_) (fun c_1 => ?_)
  · skip
    replace c_1 : ¬ u = 0 := mt (nI_eq (a := u) (b := 0) (by omega) (by omega)).mpr c_1
    refine lv_aload_n hx hb dX2_restore_8 rfl (lv_at hl 0 rfl) ?_
    refine lv_aload_n hx hb dX2_restore_9 rfl (lv_at hl 0 rfl) ?_
    refine gf_X2_18 (v := nI j) C hW (by decide) rfl hj dX2_restore_10 ?_
    refine lv_bipush (v := 10) hx hb dX2_restore_13 (by decide) ?_
    refine lv_iadd hx hb dX2_restore_15 ?_
    refine lv_iconst (v := 1) hx hb dX2_restore_16 (by decide) ?_
    refine lv_isub hx hb dX2_restore_17 ?_
    refine lv_bipush (v := 10) hx hb dX2_restore_18 (by decide) ?_
    refine lv_irem hx hb dX2_restore_20 (by decide) ?_
    rw [show nI j + 10 = nI (j + 10) from nI_add j 10, show nI (j + 10) - 1 = nI (j + 10 - 1) from pk_sub (a := j + 10) (b := 1) (by omega), krem10 (a := j + 10 - 1) (by omega)]
    refine gp_X2_18 C hW (by decide) rfl dX2_restore_21 (fun H locs hW => ?_)
    refine lv_aload_n hx hb dX2_restore_24 rfl (lv_at hl 0 rfl) ?_
    refine lv_dup hx hb dX2_restore_25 rfl ?_
    refine gf_X2_26 (v := nI u) C hW (by decide) rfl hu dX2_restore_26 ?_
    refine lv_iconst (v := 1) hx hb dX2_restore_29 (by decide) ?_
    refine lv_isub hx hb dX2_restore_30 ?_
    rw [show nI u - 1 = nI (u - 1) from pk_sub (a := u) (b := 1) (by omega)]
    refine gp_X2_26 C hW (by decide) rfl dX2_restore_31 (fun H locs hW => ?_)
    have hj3 : (j + 10 - 1) % 10 < 10 := Nat.mod_lt _ (by decide)
    refine lv_aload_n hx hb dX2_restore_34 rfl (lv_at hl 1 rfl) ?_
    refine lv_aload_n hx hb dX2_restore_35 rfl (lv_at hl 0 rfl) ?_
    refine gf_X2_11 C hW (by decide) rfl dX2_restore_36 ?_
    refine lv_aload_n hx hb dX2_restore_39 rfl (lv_at hl 0 rfl) ?_
    refine gf_X2_18 (v := nI ((j + 10 - 1) % 10)) C hW (by decide) rfl rfl dX2_restore_40 ?_
    refine g_aald ((j + 10 - 1) % 10) C hW (by decide) rfl rfl (show ((j + 10 - 1) % 10) < 10 by omega) (by decide) dX2_restore_43 ?_
    refine g_callvV (σ' := kTake (gu (gu σ 21 2 (nI ((j + 10 - 1) % 10))) 21 1 (nI (u - 1))) 16 (22 + 1 + 5 * ((j + 10 - 1) % 10))) (rest := []) (As := [.ref (gAd G (22 + 1 + 5 * ((j + 10 - 1) % 10)))]) C hW kv_X2_22 16 (by decide) (gL_3 rfl) rfl (k_take l G (gu (gu σ 21 2 (nI ((j + 10 - 1) % 10))) 21 1 (nI (u - 1))) τ 16 (22 + 1 + 5 * ((j + 10 - 1) % 10)) (gmomL 16 (by decide)) (gmomH ((j + 10 - 1) % 10) (by omega))) ⟨Nat.le_of_ble_eq_true rfl, Nat.le_of_ble_eq_true rfl⟩ ⟨Nat.le_refl _, Nat.le_refl _⟩ rfl hl.1 rfl (Nat.le_of_ble_eq_true rfl) dX2_restore_44 (fun H locs hW => ?_)
    exact g_vret C hr hlk hW dX2_restore_47 (by rw [kRes, if_neg c_1]) (rfl)
  · skip
    replace c_1 : u = 0 := (nI_eq (a := u) (b := 0) (by omega) (by omega)).mp c_1
    exact g_vret C hr hlk hW dX2_restore_7 (by rw [kRes, if_pos c_1]) (rfl)
set_option maxHeartbeats 4000000 in
set_option maxRecDepth 100000 in
theorem k_lose (l : Launch) (G : gG) (σ : gSt) (τ : Nat → Int64) : gV l yX2_lose cX2_lose 1 (none : Option Jvm.ClassFile.FieldType) 0 0 G [.ref (gAd G 21)] σ τ (gu σ 21 1 0) τ := by
  refine gMet_of (by decide) (Nat.le_of_ble_eq_true rfl) ?_
  intro p e s m args below meth c C hr hlk ls hl hW
  have hx := C.1
  have hb := C.2.1
  have hl : lv_has ls 1 [(0, .ref (gAd G 21))] := hl
  refine lv_aload_n hx hb dX2_lose_0 rfl (lv_at hl 0 rfl) ?_
  refine lv_iconst (v := 0) hx hb dX2_lose_1 (by decide) ?_
  refine gp_X2_26 C hW (by decide) rfl dX2_lose_2 (fun H locs hW => ?_)
  exact g_vret C hr hlk hW dX2_lose_5 (rfl) (rfl)
set_option maxHeartbeats 4000000 in
set_option maxRecDepth 100000 in
theorem k_bit (l : Launch) (G : gG) (σ : gSt) (τ : Nat → Int64) (a0 a1 : Int32) : gI l yX9_bit cX9_bit 2 (some .int) 0 0 G [.int a0, .int a1] σ τ (kBit a0 a1) σ τ := by
  refine gMet_of (by decide) (Nat.le_of_ble_eq_true rfl) ?_
  intro p e s m args below meth c C hr hlk ls hl hW
  have hx := C.1
  have hb := C.2.1
  have hl : lv_has ls 2 [(0, .int a0), (1, .int a1)] := hl
  refine lv_iload_n hx hb dX9_bit_0 rfl (lv_at hl 0 rfl) ?_
  refine lv_iload_n hx hb dX9_bit_1 rfl (lv_at hl 1 rfl) ?_
  refine lv_ishr hx hb dX9_bit_2 ?_
  refine lv_iconst (v := 1) hx hb dX9_bit_3 (by decide) ?_
  refine lv_iand hx hb dX9_bit_4 ?_
  exact g_iret C hr hlk hW dX9_bit_5 (rfl) (rfl) (rfl)
set_option maxHeartbeats 4000000 in
set_option maxRecDepth 100000 in
theorem k_isBit (l : Launch) (G : gG) (σ : gSt) (τ : Nat → Int64) (a0 : Int32) : gI l yX9_isBit cX9_isBit 1 (some .boolean) 0 0 G [.int a0] σ τ (bI (decide (a0 = 0) || decide (a0 = 1))) σ τ := by
  refine gMet_of (by decide) (Nat.le_of_ble_eq_true rfl) ?_
  intro p e s m args below meth c C hr hlk ls hl hW
  have hx := C.1
  have hb := C.2.1
  have hl : lv_has ls 1 [(0, .int a0)] := hl
  refine lv_iload_n hx hb dX9_isBit_0 rfl (lv_at hl 0 rfl) ?_
  refine lv_if_eq (tgt := 9) hx hb dX9_isBit_1 (by decide) (fun c_1 => ?_) (fun c_1 => ?_)
  · skip
    refine lv_iconst (v := 1) hx hb dX9_isBit_9 (by decide) ?_
    refine lv_goto (tgt := 14) hx hb dX9_isBit_10 (by decide) ?_
    exact g_zret C hr hlk hW dX9_isBit_14 (rfl) (by simp [bI, c_1]) (rfl) (rfl)
  · skip
    refine lv_iload_n hx hb dX9_isBit_4 rfl (lv_at hl 0 rfl) ?_
    refine lv_iconst (v := 1) hx hb dX9_isBit_5 (by decide) ?_
    refine lv_icmp_ne (tgt := 13) hx hb dX9_isBit_6 (by decide) (fun c_2 => ?_) (fun c_2 => ?_)
    · skip
      refine lv_iconst (v := 0) hx hb dX9_isBit_13 (by decide) ?_
      exact g_zret C hr hlk hW dX9_isBit_14 (rfl) (by simp [bI, c_1, c_2]) (rfl) (rfl)
    · skip
      refine lv_iconst (v := 1) hx hb dX9_isBit_9 (by decide) ?_
      refine lv_goto (tgt := 14) hx hb dX9_isBit_10 (by decide) ?_
      exact g_zret C hr hlk hW dX9_isBit_14 (rfl) (by simp [bI, c_1, c_2]) (rfl) (rfl)
set_option maxHeartbeats 4000000 in
set_option maxRecDepth 100000 in
theorem k_isMinute (l : Launch) (G : gG) (σ : gSt) (τ : Nat → Int64) (a0 : Int32) : gI l yX9_isMinute cX9_isMinute 1 (some .boolean) 0 0 G [.int a0] σ τ (bI (kIs a0 240)) σ τ := by
  refine gMet_of (by decide) (Nat.le_of_ble_eq_true rfl) ?_
  intro p e s m args below meth c C hr hlk ls hl hW
  have hx := C.1
  have hb := C.2.1
  have hl : lv_has ls 1 [(0, .int a0)] := hl
  refine lv_iload_n hx hb dX9_isMinute_0 rfl (lv_at hl 0 rfl) ?_
  refine lv_if_lt (tgt := 15) hx hb dX9_isMinute_1 (by decide) (fun c_1 => ?_) (fun c_1 => ?_)
  · skip
    refine lv_iconst (v := 0) hx hb dX9_isMinute_15 (by decide) ?_
    exact g_zret C hr hlk hW dX9_isMinute_16 (rfl) (by simp [bI, kIs, c_1]) (rfl) (rfl)
  · skip
    refine lv_iload_n hx hb dX9_isMinute_4 rfl (lv_at hl 0 rfl) ?_
    refine lv_sipush (v := 240) hx hb dX9_isMinute_5 (by decide) ?_
    refine lv_icmp_ge (tgt := 15) hx hb dX9_isMinute_8 (by decide) (fun c_2 => ?_) (fun c_2 => ?_)
    · skip
      refine lv_iconst (v := 0) hx hb dX9_isMinute_15 (by decide) ?_
      exact g_zret C hr hlk hW dX9_isMinute_16 (rfl) (by simp [bI, kIs, c_1, c_2]) (rfl) (rfl)
    · skip
      refine lv_iconst (v := 1) hx hb dX9_isMinute_11 (by decide) ?_
      refine lv_goto (tgt := 16) hx hb dX9_isMinute_12 (by decide) ?_
      exact g_zret C hr hlk hW dX9_isMinute_16 (rfl) (by simp [bI, kIs, c_1, c_2]) (rfl) (rfl)
set_option maxHeartbeats 4000000 in
set_option maxRecDepth 100000 in
theorem k_isImage (l : Launch) (G : gG) (σ : gSt) (τ : Nat → Int64) (a0 : Int32) : gI l yX9_isImage cX9_isImage 1 (some .boolean) 0 0 G [.int a0] σ τ (bI (kIs a0 2)) σ τ := by
  refine gMet_of (by decide) (Nat.le_of_ble_eq_true rfl) ?_
  intro p e s m args below meth c C hr hlk ls hl hW
  have hx := C.1
  have hb := C.2.1
  have hl : lv_has ls 1 [(0, .int a0)] := hl
  refine lv_iload_n hx hb dX9_isImage_0 rfl (lv_at hl 0 rfl) ?_
  refine lv_if_lt (tgt := 13) hx hb dX9_isImage_1 (by decide) (fun c_1 => ?_) (fun c_1 => ?_)
  · skip
    refine lv_iconst (v := 0) hx hb dX9_isImage_13 (by decide) ?_
    exact g_zret C hr hlk hW dX9_isImage_14 (rfl) (by simp [bI, kIs, c_1]) (rfl) (rfl)
  · skip
    refine lv_iload_n hx hb dX9_isImage_4 rfl (lv_at hl 0 rfl) ?_
    refine lv_iconst (v := 2) hx hb dX9_isImage_5 (by decide) ?_
    refine lv_icmp_ge (tgt := 13) hx hb dX9_isImage_6 (by decide) (fun c_2 => ?_) (fun c_2 => ?_)
    · skip
      refine lv_iconst (v := 0) hx hb dX9_isImage_13 (by decide) ?_
      exact g_zret C hr hlk hW dX9_isImage_14 (rfl) (by simp [bI, kIs, c_1, c_2]) (rfl) (rfl)
    · skip
      refine lv_iconst (v := 1) hx hb dX9_isImage_9 (by decide) ?_
      refine lv_goto (tgt := 14) hx hb dX9_isImage_10 (by decide) ?_
      exact g_zret C hr hlk hW dX9_isImage_14 (rfl) (by simp [bI, kIs, c_1, c_2]) (rfl) (rfl)
set_option maxHeartbeats 4000000 in
set_option maxRecDepth 100000 in
theorem k_power (l : Launch) (G : gG) (σ : gSt) (τ : Nat → Int64) (a0 a1 : Int32) (c_ : Nat) (hc : a1 = nI c_) (hc8 : c_ ≤ 8) : gI l yX9_power cX9_power 4 (some .int) 0 0 G [.int a0, .int a1] σ τ (kPow a0 c_) σ τ := by
  refine gMet_of (by decide) (Nat.le_of_ble_eq_true rfl) ?_
  intro p e s m args below meth c C hr hlk ls hl hW
  have hx := C.1
  have hb := C.2.1
  have hl : lv_has ls 4 [(0, .int a0), (1, .int a1)] := hl
  rw [hc] at hl
  refine lv_iconst (v := 1) hx hb dX9_power_0 (by decide) ?_
  refine lv_istore_n (lv' := [(2, .int 1), (0, .int a0), (1, .int (nI c_))]) hx hb dX9_power_1 rfl hl (by decide) rfl (fun ls hl => ?_)
  refine lv_iconst (v := 0) hx hb dX9_power_2 (by decide) ?_
  refine lv_istore_n (lv' := [(3, .int 0), (2, .int 1), (0, .int a0), (1, .int (nI c_))]) hx hb dX9_power_3 rfl hl (by decide) rfl (fun ls hl => ?_)
  have L4 : ∀ (n : Nat) (k : Nat) (v : Int32) (H : Heap) (locs : List Loc) (ls : Array Slot), n + k = c_ → v = (kPow a0 k) → gW G s σ τ H locs → lv_has ls 4 [(3, .int (nI k)), (2, .int v), (0, .int a0), (1, .int (nI c_))] → W p l e (gRm 0 0) s m args below meth c H locs 0 0 (MQ below (gQi G (kPow a0 c_) σ τ) args s 0 0 (gA G)) (F0 m 4 ls []) := by
    intro n
    induction n with
    | zero =>
      intro k v H locs ls hm hv hW hl
      refine lv_iload_n hx hb dX9_power_4 rfl (lv_at hl 0 rfl) ?_
      refine lv_iload_n hx hb dX9_power_5 rfl (lv_at hl 3 rfl) ?_
      refine lv_icmp_ge (tgt := 25) hx hb dX9_power_6 (by decide) (fun _ => ?_) (fun zz => absurd (show nI c_ ≤ nI k from nI_le (by omega) (by omega)) zz)
      refine lv_iload_n hx hb dX9_power_25 rfl (lv_at hl 1 rfl) ?_
      exact g_iret C hr hlk hW dX9_power_26 (by rw [hv, show k = c_ by omega]) (rfl) (rfl)
    | succ n ih4 =>
      intro k v H locs ls hm hv hW hl
      refine lv_iload_n hx hb dX9_power_4 rfl (lv_at hl 0 rfl) ?_
      refine lv_iload_n hx hb dX9_power_5 rfl (lv_at hl 3 rfl) ?_
      refine lv_icmp_ge (tgt := 25) hx hb dX9_power_6 (by decide) (fun zz => absurd zz (show ¬ nI c_ ≤ nI k from nI_ge (by omega) (by omega))) (fun _ => ?_)
      refine lv_iload_n hx hb dX9_power_9 rfl (lv_at hl 0 rfl) ?_
      refine lv_bipush (v := 8) hx hb dX9_power_10 (by decide) ?_
      refine lv_icmp_ge (tgt := 25) hx hb dX9_power_12 (by decide) (fun zz => absurd zz (show ¬ nI 8 ≤ nI k from nI_ge (by omega) (by omega))) (fun _ => ?_)
      refine lv_iload_n hx hb dX9_power_15 rfl (lv_at hl 1 rfl) ?_
      refine lv_iload_n hx hb dX9_power_16 rfl (lv_at hl 2 rfl) ?_
      refine lv_imul hx hb dX9_power_17 ?_
      refine lv_istore_n (lv' := [(2, .int (v * a0)), (3, .int (nI k)), (0, .int a0), (1, .int (nI c_))]) hx hb dX9_power_18 rfl hl (by decide) rfl (fun ls hl => ?_)
      refine lv_iinc (v := nI (k + 1)) (lv' := [(3, .int (nI (k + 1))), (2, .int (v * a0)), (0, .int a0), (1, .int (nI c_))]) hx hb dX9_power_19 hl (k := 1) rfl (nI_1 _) (by decide) rfl (fun ls hl => ?_)
      refine lv_goto (tgt := 4) hx hb dX9_power_22 (by decide) ?_
      exact ih4 (k + 1) (v * a0) _ _ _ (by omega) (by rw [kPow, hv]) hW (lv_sub hl [0, 1, 2, 3] rfl)
  exact L4 c_ 0 1 _ _ _ (by omega) (by first | rfl | simp [bI]) hW (lv_sub hl [0, 1, 2, 3] rfl)
set_option maxHeartbeats 4000000 in
set_option maxRecDepth 100000 in
theorem k_bitCount (l : Launch) (G : gG) (σ : gSt) (τ : Nat → Int64) (a0 : Int32) : gI l yJ6_bitCount_0f7a4 cJ6_bitCount_0f7a4 1 (some .int) 0 0 G [.int a0] σ τ (kBC a0) σ τ := by
  refine gMet_of (by decide) (Nat.le_of_ble_eq_true rfl) ?_
  intro p e s m args below meth c C hr hlk ls hl hW
  have hx := C.1
  have hb := C.2.1
  have hl : lv_has ls 1 [(0, .int a0)] := hl
  refine lv_iload_n hx hb dJ6_bitCount_0f7a4_0 rfl (lv_at hl 0 rfl) ?_
  refine lv_iload_n hx hb dJ6_bitCount_0f7a4_1 rfl (lv_at hl 0 rfl) ?_
  refine lv_iconst (v := 1) hx hb dJ6_bitCount_0f7a4_2 (by decide) ?_
  refine lv_iushr (v := (a0.toUInt32 >>> (Int32.toUInt32 1 &&& Int32.toUInt32 31)).toInt32) hx hb dJ6_bitCount_0f7a4_3 rfl ?_
  refine lv_ldcw (v := 1431655765) hx hb C.2.2.2.1 (C.2.2.2.2.1 _ kcn_J6_265) dJ6_bitCount_0f7a4_4 ?_
  refine lv_iand hx hb dJ6_bitCount_0f7a4_7 ?_
  refine lv_isub hx hb dJ6_bitCount_0f7a4_8 ?_
  refine lv_topi (fun y1 h1 => ?_)
  refine lv_istore_n (lv' := [(0, .int y1)]) hx hb dJ6_bitCount_0f7a4_9 rfl hl (by decide) rfl (fun ls hl => ?_)
  refine lv_iload_n hx hb dJ6_bitCount_0f7a4_10 rfl (lv_at hl 0 rfl) ?_
  refine lv_ldcw (v := 858993459) hx hb C.2.2.2.1 (C.2.2.2.2.1 _ kcn_J6_266) dJ6_bitCount_0f7a4_11 ?_
  refine lv_iand hx hb dJ6_bitCount_0f7a4_14 ?_
  refine lv_iload_n hx hb dJ6_bitCount_0f7a4_15 rfl (lv_at hl 0 rfl) ?_
  refine lv_iconst (v := 2) hx hb dJ6_bitCount_0f7a4_16 (by decide) ?_
  refine lv_iushr (v := (y1.toUInt32 >>> (Int32.toUInt32 2 &&& Int32.toUInt32 31)).toInt32) hx hb dJ6_bitCount_0f7a4_17 rfl ?_
  refine lv_ldcw (v := 858993459) hx hb C.2.2.2.1 (C.2.2.2.2.1 _ kcn_J6_266) dJ6_bitCount_0f7a4_18 ?_
  refine lv_iand hx hb dJ6_bitCount_0f7a4_21 ?_
  refine lv_iadd hx hb dJ6_bitCount_0f7a4_22 ?_
  refine lv_topi (fun y2 h2 => ?_)
  refine lv_istore_n (lv' := [(0, .int y2)]) hx hb dJ6_bitCount_0f7a4_23 rfl hl (by decide) rfl (fun ls hl => ?_)
  refine lv_iload_n hx hb dJ6_bitCount_0f7a4_24 rfl (lv_at hl 0 rfl) ?_
  refine lv_iload_n hx hb dJ6_bitCount_0f7a4_25 rfl (lv_at hl 0 rfl) ?_
  refine lv_iconst (v := 4) hx hb dJ6_bitCount_0f7a4_26 (by decide) ?_
  refine lv_iushr (v := (y2.toUInt32 >>> (Int32.toUInt32 4 &&& Int32.toUInt32 31)).toInt32) hx hb dJ6_bitCount_0f7a4_27 rfl ?_
  refine lv_iadd hx hb dJ6_bitCount_0f7a4_28 ?_
  refine lv_ldcw (v := 252645135) hx hb C.2.2.2.1 (C.2.2.2.2.1 _ kcn_J6_267) dJ6_bitCount_0f7a4_29 ?_
  refine lv_iand hx hb dJ6_bitCount_0f7a4_32 ?_
  refine lv_topi (fun y3 h3 => ?_)
  refine lv_istore_n (lv' := [(0, .int y3)]) hx hb dJ6_bitCount_0f7a4_33 rfl hl (by decide) rfl (fun ls hl => ?_)
  refine lv_iload_n hx hb dJ6_bitCount_0f7a4_34 rfl (lv_at hl 0 rfl) ?_
  refine lv_iload_n hx hb dJ6_bitCount_0f7a4_35 rfl (lv_at hl 0 rfl) ?_
  refine lv_bipush (v := 8) hx hb dJ6_bitCount_0f7a4_36 (by decide) ?_
  refine lv_iushr (v := (y3.toUInt32 >>> (Int32.toUInt32 8 &&& Int32.toUInt32 31)).toInt32) hx hb dJ6_bitCount_0f7a4_38 rfl ?_
  refine lv_iadd hx hb dJ6_bitCount_0f7a4_39 ?_
  refine lv_topi (fun y4 h4 => ?_)
  refine lv_istore_n (lv' := [(0, .int y4)]) hx hb dJ6_bitCount_0f7a4_40 rfl hl (by decide) rfl (fun ls hl => ?_)
  refine lv_iload_n hx hb dJ6_bitCount_0f7a4_41 rfl (lv_at hl 0 rfl) ?_
  refine lv_iload_n hx hb dJ6_bitCount_0f7a4_42 rfl (lv_at hl 0 rfl) ?_
  refine lv_bipush (v := 16) hx hb dJ6_bitCount_0f7a4_43 (by decide) ?_
  refine lv_iushr (v := (y4.toUInt32 >>> (Int32.toUInt32 16 &&& Int32.toUInt32 31)).toInt32) hx hb dJ6_bitCount_0f7a4_45 rfl ?_
  refine lv_iadd hx hb dJ6_bitCount_0f7a4_46 ?_
  refine lv_topi (fun y5 h5 => ?_)
  refine lv_istore_n (lv' := [(0, .int y5)]) hx hb dJ6_bitCount_0f7a4_47 rfl hl (by decide) rfl (fun ls hl => ?_)
  refine lv_iload_n hx hb dJ6_bitCount_0f7a4_48 rfl (lv_at hl 0 rfl) ?_
  refine lv_bipush (v := 63) hx hb dJ6_bitCount_0f7a4_49 (by decide) ?_
  refine lv_iand hx hb dJ6_bitCount_0f7a4_51 ?_
  exact g_iret C hr hlk hW dJ6_bitCount_0f7a4_52 (by subst h5; subst h4; subst h3; subst h2; subst h1; rfl) (rfl) (rfl)
