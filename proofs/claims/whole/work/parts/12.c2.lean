/-! ===== the class: who is rung for ===== -/
def kDue (fm lt : Nat → Int32) (fr ex mi : Int32) (d : Nat) : Bool :=
  decide (kBit ex (nI d) = 0) && (!decide (mi < fm d + fr) && !decide ((if fm d + lt d < 240 then fm d + lt d else 240) ≤ mi))
def kDueAt (fm lt pl ow : Nat → Int32) (fr ex p mi : Int32) : Nat → Int32
  | 0 => 0
  | d + 1 => if ow d = p ∧ kDue fm lt fr ex mi d = true then kDueAt fm lt pl ow fr ex p mi d ||| (1 <<< (pl d &&& 31)) else kDueAt fm lt pl ow fr ex p mi d
def kThere (pw go : Nat → Int32) (m0 : Int32) (w : Nat) (place mi : Int32) : Bool := decide (pw w = place) && !decide (mi < m0 + go w)
def kDR (fm lt pl ow pw go : Nat → Int32) (fr ex m0 mi : Int32) : Nat → Int32
  | 0 => 0
  | d + 1 => if kDue fm lt fr ex mi d = true ∧ kThere pw go m0 (ow d).toNatClampNeg (pl d) mi = false then kDR fm lt pl ow pw go fr ex m0 mi d ||| (1 <<< (nI d &&& 31)) else kDR fm lt pl ow pw go fr ex m0 mi d
def kOwn (ow : Nat → Int32) (x : Int32) : Nat → Int32
  | 0 => 0
  | d + 1 => if kBit x (nI d) = 1 then kOwn ow x d ||| (1 <<< (ow d &&& 31)) else kOwn ow x d
def kOf (ow : Nat → Int32) (p : Int32) : Nat → Int32
  | 0 => 0
  | d + 1 => if ow d = p then kOf ow p d ||| (1 <<< (nI d &&& 31)) else kOf ow p d
abbrev sDue (σ : gSt) (mi : Int32) (d : Nat) : Bool := kDue (σ 14) (σ 15) (σ 10 4) (σ 16 1) mi d
abbrev sDueAt (σ : gSt) (p mi : Int32) (D : Nat) : Int32 := kDueAt (σ 14) (σ 15) (σ 13) (σ 20) (σ 10 4) (σ 16 1) p mi D
def kRAt (x place : Int32) : Bool := !decide (x &&& ((1 <<< (place &&& 31)) ^^^ -1) = 0)
abbrev sRungAt (σ : gSt) (place p mi : Int32) (D : Nat) : Bool := kRAt (sDueAt σ p mi D) place
abbrev sDR (σ : gSt) (mi : Int32) (D : Nat) : Int32 := kDR (σ 14) (σ 15) (σ 13) (σ 20) (σ 17) (σ 18) (σ 10 4) (σ 16 1) (σ 16 0) mi D
abbrev sRung (σ : gSt) (mi : Int32) (D : Nat) : Int32 := kOwn (σ 20) (sDR σ mi D) D
def kMinP (σ : gSt) (set : Int32) : Nat → gSt
  | 0 => σ
  | p + 1 => gu (gu (kMinP σ set p) 19 p (kMinP σ set p 19 p + kBit set (nI p))) 18 p (if 0 < kMinP σ set p 18 p - 1 then kMinP σ set p 18 p - 1 else 0)
theorem kMinP_ne {σ : gSt} {set : Int32} {c : Nat} (h : c ≠ 18) (h2 : c ≠ 19) : ∀ p, kMinP σ set p c = σ c
  | 0 => rfl
  | p + 1 => by rw [kMinP, gu_ne h, gu_ne h2, kMinP_ne h h2 p]
def kMin (σ : gSt) (D N : Nat) : gSt := gu (kMinP σ (sRung σ (σ 16 0) D) N) 16 0 (kMinP σ (sRung σ (σ 16 0) D) N 16 0 + 1)
def kSum (tl : Nat → Int32) : Nat → Int32
  | 0 => 0
  | p + 1 => kSum tl p + tl p
/-- (the most, who) -/
def kWorst (tl : Nat → Int32) : Nat → Int32 × Int32
  | 0 => (0, -9)
  | p + 1 => if tl p ≤ (kWorst tl p).1 then kWorst tl p else (tl p, nI p)
def kMiss (fm lt pl ow : Nat → Int32) (fr ex p mi hm : Int32) : Nat → Nat
  | 0 => 0
  | d + 1 => if ow d = p ∧ ¬ pl d = hm ∧ kDue fm lt fr ex mi d = true then kMiss fm lt pl ow fr ex p mi hm d + 1 else kMiss fm lt pl ow fr ex p mi hm d
abbrev sMiss (σ : gSt) (p mi hm : Int32) (D : Nat) : Nat := kMiss (σ 14) (σ 15) (σ 13) (σ 20) (σ 10 4) (σ 16 1) p mi hm D
def kFits (o mn ws : Nat → Int32) (p : Int32) (R : Int32 → Bool) : Nat → Nat → Bool
  | 0, _ => true
  | n + 1, e => if o e = p ∧ ¬ R (mn e) = decide (ws e = 1) then false else kFits o mn ws p R n (e + 1)
abbrev sFits (σ : gSt) (p place : Int32) (D hd : Nat) : Bool := kFits (σ 74) (σ 75) (σ 76) p (fun mi => sRungAt σ place p mi D) hd 0
def kPlaces (F : Nat → Bool) : Nat → Int32
  | 0 => 0
  | k + 1 => if F k = true then kPlaces F k ||| (1 <<< (nI k &&& 31)) else kPlaces F k
def kT (τ : Nat → Int64) (n : Int64) : Nat → Int64 := va_up τ 83 (τ 83 + n)
theorem kmax1 {a : Nat} (h : 1 ≤ a) (h2 : a < 2 ^ 31) : (if (1 : Int32) < nI a then nI a else 1) = nI a := by
  rw [show (1 : Int32) = nI 1 from rfl]
  rcases Nat.lt_or_ge 1 a with q | q
  · rw [if_pos (nI_lt q h2)]
  · rw [if_neg (nI_nlt q (by decide)), show a = 1 by omega]
theorem half_mod {x y : Nat} (h : 0 < y) (hxy : y ≤ x) : 2 * (y * (x % y)) < x * y := by
  have h1 : x % y < y := Nat.mod_lt x h
  have h2 : y * (x / y) + x % y = x := Nat.div_add_mod x y
  have h3 : 1 ≤ x / y := Nat.div_pos hxy h
  have h4 : y ≤ y * (x / y) := Nat.le_mul_of_pos_right y h3
  have h5 : 2 * (x % y) < x := by omega
  calc 2 * (y * (x % y)) = (2 * (x % y)) * y := by rw [Nat.mul_comm y, Nat.mul_assoc]
    _ < x * y := Nat.mul_lt_mul_of_pos_right h5 h
set_option maxHeartbeats 4000000 in
set_option maxRecDepth 100000 in
theorem k_dbegin (l : Launch) (G : gG) (σ : gSt) (τ : Nat → Int64) : gV l yX0_begin cX0_begin 2 (none : Option Jvm.ClassFile.FieldType) 2 62 G [.ref (gAd G 9), .ref (gAd G 3)] σ τ (kBegin (kPlan σ)) τ := by
  refine gMet_of (by decide) (Nat.le_of_ble_eq_true rfl) ?_
  intro p e s m args below meth c C hr hlk ls hl hW
  have hx := C.1
  have hb := C.2.1
  have hl : lv_has ls 2 [(0, .ref (gAd G 9)), (1, .ref (gAd G 3))] := hl
  refine lv_aload_n hx hb dX0_begin_0 rfl (lv_at hl 0 rfl) ?_
  refine gf_X0_12 C hW (by decide) rfl dX0_begin_1 ?_
  refine lv_aload_n hx hb dX0_begin_4 rfl (lv_at hl 1 rfl) ?_
  refine g_callvV (σ' := kPlan σ) (rest := []) (As := [.ref (gAd G 3)]) C hW kv_X0_25 10 (by decide) (gL_4 rfl) rfl (k_plan l G σ τ) ⟨Nat.le_of_ble_eq_true rfl, Nat.le_of_ble_eq_true rfl⟩ ⟨Nat.le_refl _, Nat.le_refl _⟩ rfl hl.1 rfl (Nat.le_of_ble_eq_true rfl) dX0_begin_5 (fun H locs hW => ?_)
  refine lv_aload_n hx hb dX0_begin_8 rfl (lv_at hl 0 rfl) ?_
  refine gf_X0_21 C hW (by decide) rfl dX0_begin_9 ?_
  refine lv_aload_n hx hb dX0_begin_12 rfl (lv_at hl 0 rfl) ?_
  refine gf_X0_12 C hW (by decide) rfl dX0_begin_13 ?_
  refine g_callvV (σ' := kBegin (kPlan σ)) (rest := []) (As := [.ref (gAd G 10)]) C hW kv_X0_29 16 (by decide) (gL_3 rfl) rfl (k_begin l G (kPlan σ) τ) ⟨Nat.le_of_ble_eq_true rfl, Nat.le_of_ble_eq_true rfl⟩ ⟨Nat.le_refl _, Nat.le_refl _⟩ rfl hl.1 rfl (Nat.le_of_ble_eq_true rfl) dX0_begin_16 (fun H locs hW => ?_)
  exact g_vret C hr hlk hW dX0_begin_19 (rfl) (rfl)
set_option maxHeartbeats 4000000 in
set_option maxRecDepth 100000 in
theorem k_isDue (l : Launch) (G : gG) (σ : gSt) (τ : Nat → Int64) (a0 a1 : Int32) (d : Nat) (hd : a0 = nI d) (hd8 : d < 8) : gI l yX0_isDue cX0_isDue 3 (some .boolean) 1 21 G [.ref (gAd G 9), .int a0, .int a1] σ τ (bI (sDue σ a1 d)) σ τ := by
  refine gMet_of (by decide) (Nat.le_of_ble_eq_true rfl) ?_
  intro p e s m args below meth c C hr hlk ls hl hW
  have hx := C.1
  have hb := C.2.1
  have hl : lv_has ls 3 [(0, .ref (gAd G 9)), (1, .int a0), (2, .int a1)] := hl
  rw [hd] at hl
  refine lv_aload_n hx hb dX0_isDue_0 rfl (lv_at hl 0 rfl) ?_
  refine gf_X0_21 C hW (by decide) rfl dX0_isDue_1 ?_
  refine gf_X0_32 (v := σ 16 1) C hW (by decide) rfl rfl dX0_isDue_4 ?_
  refine lv_iload_n hx hb dX0_isDue_7 rfl (lv_at hl 1 rfl) ?_
  refine g_callnI (r := kBit (σ 16 1) (nI d)) (σ' := σ) (rest := []) (As := [.int (σ 16 1), .int (nI d)]) (host := RX9) C.2.2.2.2.2.2.1 C hW kn_X9_bit (k_bit l G σ τ (σ 16 1) (nI d)) ⟨Nat.le_of_ble_eq_true rfl, Nat.le_of_ble_eq_true rfl⟩ ⟨Nat.le_refl _, Nat.le_refl _⟩ rfl hl.1 rfl (Nat.le_of_ble_eq_true rfl) dX0_isDue_8 (fun H locs hW => ?_)
  refine lv_if_ne (tgt := 68) hx hb dX0_isDue_11 (by decide) (fun c_1 => ?_) (fun c_1 => ?_)
  · skip
    refine lv_iconst (v := 0) hx hb dX0_isDue_68 (by decide) ?_
    exact g_zret C hr hlk hW dX0_isDue_69 (rfl) (by simp [bI, kDue, c_1]) (rfl) (rfl)
  · skip
    refine lv_iload_n hx hb dX0_isDue_14 rfl (lv_at hl 2 rfl) ?_
    refine lv_aload_n hx hb dX0_isDue_15 rfl (lv_at hl 0 rfl) ?_
    refine gf_X0_12 C hW (by decide) rfl dX0_isDue_16 ?_
    refine gf_X0_40 C hW (by decide) rfl dX0_isDue_19 ?_
    refine lv_iload_n hx hb dX0_isDue_22 rfl (lv_at hl 1 rfl) ?_
    refine g_ald (v := σ 14 d) d C hW (by decide) rfl rfl (show d < 8 by omega) (by decide) rfl dX0_isDue_23 ?_
    refine lv_aload_n hx hb dX0_isDue_24 rfl (lv_at hl 0 rfl) ?_
    refine gf_X0_12 C hW (by decide) rfl dX0_isDue_25 ?_
    refine gf_X0_44 (v := σ 10 4) C hW (by decide) rfl rfl dX0_isDue_28 ?_
    refine lv_iadd hx hb dX0_isDue_31 ?_
    refine lv_icmp_lt (tgt := 68) hx hb dX0_isDue_32 (by decide) (fun c_2 => ?_) (fun c_2 => ?_)
    · skip
      refine lv_iconst (v := 0) hx hb dX0_isDue_68 (by decide) ?_
      exact g_zret C hr hlk hW dX0_isDue_69 (rfl) (by simp [bI, kDue, c_1, c_2]) (rfl) (rfl)
    · skip
      refine lv_iload_n hx hb dX0_isDue_35 rfl (lv_at hl 2 rfl) ?_
      refine lv_sipush (v := 240) hx hb dX0_isDue_36 (by decide) ?_
      refine lv_aload_n hx hb dX0_isDue_39 rfl (lv_at hl 0 rfl) ?_
      refine gf_X0_12 C hW (by decide) rfl dX0_isDue_40 ?_
      refine gf_X0_40 C hW (by decide) rfl dX0_isDue_43 ?_
      refine lv_iload_n hx hb dX0_isDue_46 rfl (lv_at hl 1 rfl) ?_
      refine g_ald (v := σ 14 d) d C hW (by decide) rfl rfl (show d < 8 by omega) (by decide) rfl dX0_isDue_47 ?_
      refine lv_aload_n hx hb dX0_isDue_48 rfl (lv_at hl 0 rfl) ?_
      refine gf_X0_12 C hW (by decide) rfl dX0_isDue_49 ?_
      refine gf_X0_47 C hW (by decide) rfl dX0_isDue_52 ?_
      refine lv_iload_n hx hb dX0_isDue_55 rfl (lv_at hl 1 rfl) ?_
      refine g_ald (v := σ 15 d) d C hW (by decide) rfl rfl (show d < 8 by omega) (by decide) rfl dX0_isDue_56 ?_
      refine lv_iadd hx hb dX0_isDue_57 ?_
      refine g_min C hl.1 kml_X0_50 (Nat.le_of_ble_eq_true rfl) (Nat.le_of_ble_eq_true rfl) (Nat.le_refl _) (Nat.le_refl _) dX0_isDue_58 ?_
      refine lv_icmp_ge (tgt := 68) hx hb dX0_isDue_61 (by decide) (fun c_3 => ?_) (fun c_3 => ?_)
      · skip
        refine lv_iconst (v := 0) hx hb dX0_isDue_68 (by decide) ?_
        exact g_zret C hr hlk hW dX0_isDue_69 (rfl) (by simp [bI, kDue, c_1, c_2, c_3]) (rfl) (rfl)
      · skip
        refine lv_iconst (v := 1) hx hb dX0_isDue_64 (by decide) ?_
        refine lv_goto (tgt := 69) hx hb dX0_isDue_65 (by decide) ?_
        exact g_zret C hr hlk hW dX0_isDue_69 (rfl) (by simp [bI, kDue, c_1, c_2, c_3]) (rfl) (rfl)
set_option maxHeartbeats 4000000 in
set_option maxRecDepth 100000 in
theorem k_dueAt (l : Launch) (G : gG) (σ : gSt) (τ : Nat → Int64) (a0 a1 : Int32) (D : Nat) (hD : σ 10 2 = nI D) (hD8 : D ≤ 8) : gI l yX0_dueAt cX0_dueAt 5 (some .int) 2 43 G [.ref (gAd G 9), .int a0, .int a1] σ τ (sDueAt σ a0 a1 D) σ τ := by
  refine gMet_of (by decide) (Nat.le_of_ble_eq_true rfl) ?_
  intro p e s m args below meth c C hr hlk ls hl hW
  have hx := C.1
  have hb := C.2.1
  have hl : lv_has ls 5 [(0, .ref (gAd G 9)), (1, .int a0), (2, .int a1)] := hl
  refine lv_iconst (v := 0) hx hb dX0_dueAt_0 (by decide) ?_
  refine lv_istore_n (lv' := [(3, .int 0), (0, .ref (gAd G 9)), (1, .int a0), (2, .int a1)]) hx hb dX0_dueAt_1 rfl hl (by decide) rfl (fun ls hl => ?_)
  refine lv_iconst (v := 0) hx hb dX0_dueAt_2 (by decide) ?_
  refine lv_istore (lv' := [(4, .int 0), (3, .int 0), (0, .ref (gAd G 9)), (1, .int a0), (2, .int a1)]) hx hb dX0_dueAt_3 hl (by decide) rfl (fun ls hl => ?_)
  have L5 : ∀ (n : Nat) (d : Nat) (v : Int32) (H : Heap) (locs : List Loc) (ls : Array Slot), n + d = D → v = (sDueAt σ a0 a1 d) → gW G s σ τ H locs → lv_has ls 5 [(4, .int (nI d)), (3, .int v), (0, .ref (gAd G 9)), (1, .int a0), (2, .int a1)] → W p l e (gRm 2 43) s m args below meth c H locs 0 0 (MQ below (gQi G (sDueAt σ a0 a1 D) σ τ) args s 0 0 (gA G)) (F0 m 5 ls []) := by
    intro n
    induction n with
    | zero =>
      intro d v H locs ls hm hv hW hl
      refine lv_iload hx hb dX0_dueAt_5 (lv_at hl 0 rfl) ?_
      refine lv_aload_n hx hb dX0_dueAt_7 rfl (lv_at hl 2 rfl) ?_
      refine gf_X0_12 C hW (by decide) rfl dX0_dueAt_8 ?_
      refine gf_X0_55 (v := nI D) C hW (by decide) rfl hD dX0_dueAt_11 ?_
      refine lv_icmp_ge (tgt := 62) hx hb dX0_dueAt_14 (by decide) (fun _ => ?_) (fun zz => absurd (show nI D ≤ nI d from nI_le (by omega) (by omega)) zz)
      refine lv_iload_n hx hb dX0_dueAt_62 rfl (lv_at hl 1 rfl) ?_
      exact g_iret C hr hlk hW dX0_dueAt_63 (by rw [hv, show d = D by omega]) (rfl) (rfl)
    | succ n ih5 =>
      intro d v H locs ls hm hv hW hl
      refine lv_iload hx hb dX0_dueAt_5 (lv_at hl 0 rfl) ?_
      refine lv_aload_n hx hb dX0_dueAt_7 rfl (lv_at hl 2 rfl) ?_
      refine gf_X0_12 C hW (by decide) rfl dX0_dueAt_8 ?_
      refine gf_X0_55 (v := nI D) C hW (by decide) rfl hD dX0_dueAt_11 ?_
      refine lv_icmp_ge (tgt := 62) hx hb dX0_dueAt_14 (by decide) (fun zz => absurd zz (show ¬ nI D ≤ nI d from nI_ge (by omega) (by omega))) (fun _ => ?_)
      refine lv_aload_n hx hb dX0_dueAt_17 rfl (lv_at hl 2 rfl) ?_
      refine gf_X0_21 C hW (by decide) rfl dX0_dueAt_18 ?_
      refine gf_X0_58 C hW (by decide) rfl dX0_dueAt_21 ?_
      refine lv_iload hx hb dX0_dueAt_24 (lv_at hl 0 rfl) ?_
      refine g_ald (v := σ 20 d) d C hW (by decide) rfl rfl (show d < 8 by omega) (by decide) rfl dX0_dueAt_26 ?_
      refine lv_iload_n hx hb dX0_dueAt_27 rfl (lv_at hl 3 rfl) ?_
      refine lv_icmp_ne (tgt := 56) hx hb dX0_dueAt_28 (by decide) (fun c_1 => ?_) (fun c_1 => ?_)
      · skip
        refine lv_iinc (v := nI (d + 1)) (lv' := [(4, .int (nI (d + 1))), (3, .int v), (0, .ref (gAd G 9)), (1, .int a0), (2, .int a1)]) hx hb dX0_dueAt_56 hl (k := 0) rfl (nI_1 _) (by decide) rfl (fun ls hl => ?_)
        refine lv_goto (tgt := 5) hx hb dX0_dueAt_59 (by decide) ?_
        exact ih5 (d + 1) v _ _ _ (by omega) (by rw [hv]; exact (if_neg (fun q => c_1 q.1)).symm) hW (lv_sub hl [0, 1, 2, 3, 4] rfl)
      · skip
        refine lv_aload_n hx hb dX0_dueAt_31 rfl (lv_at hl 2 rfl) ?_
        refine lv_iload hx hb dX0_dueAt_32 (lv_at hl 0 rfl) ?_
        refine lv_iload_n hx hb dX0_dueAt_34 rfl (lv_at hl 4 rfl) ?_
        refine g_callvI (r := bI (sDue σ a1 d)) (σ' := σ) (rest := []) (As := [.int (nI d), .int a1]) C hW kv_X0_61 9 (by decide) (gL_0 rfl) rfl (k_isDue l G σ τ (nI d) a1 d rfl (by omega)) ⟨Nat.le_of_ble_eq_true rfl, Nat.le_of_ble_eq_true rfl⟩ ⟨Nat.le_refl _, Nat.le_refl _⟩ rfl hl.1 rfl (Nat.le_of_ble_eq_true rfl) dX0_dueAt_35 (fun H locs hW => ?_)
        refine lv_if_eq (tgt := 56) hx hb dX0_dueAt_38 (by decide) (fun c_2 => ?_) (fun c_2 => ?_)
        · skip
          replace c_2 : (sDue σ a1 d) = false := bI_eq0.mp c_2
          refine lv_iinc (v := nI (d + 1)) (lv' := [(4, .int (nI (d + 1))), (3, .int v), (0, .ref (gAd G 9)), (1, .int a0), (2, .int a1)]) hx hb dX0_dueAt_56 hl (k := 0) rfl (nI_1 _) (by decide) rfl (fun ls hl => ?_)
          refine lv_goto (tgt := 5) hx hb dX0_dueAt_59 (by decide) ?_
          exact ih5 (d + 1) v _ _ _ (by omega) (by rw [hv]; exact (if_neg (fun q => bneg c_2 q.2)).symm) hW (lv_sub hl [0, 1, 2, 3, 4] rfl)
        · skip
          replace c_2 : (sDue σ a1 d) = true := bI_ne0.mp c_2
          refine lv_iload_n hx hb dX0_dueAt_41 rfl (lv_at hl 1 rfl) ?_
          refine lv_iconst (v := 1) hx hb dX0_dueAt_42 (by decide) ?_
          refine lv_aload_n hx hb dX0_dueAt_43 rfl (lv_at hl 2 rfl) ?_
          refine gf_X0_12 C hW (by decide) rfl dX0_dueAt_44 ?_
          refine gf_X0_65 C hW (by decide) rfl dX0_dueAt_47 ?_
          refine lv_iload hx hb dX0_dueAt_50 (lv_at hl 0 rfl) ?_
          refine g_ald (v := σ 13 d) d C hW (by decide) rfl rfl (show d < 8 by omega) (by decide) rfl dX0_dueAt_52 ?_
          refine lv_ishl hx hb dX0_dueAt_53 ?_
          refine lv_ior hx hb dX0_dueAt_54 ?_
          refine lv_istore_n (lv' := [(3, .int (v ||| (1 <<< ((σ 13 d) &&& 31)))), (4, .int (nI d)), (0, .ref (gAd G 9)), (1, .int a0), (2, .int a1)]) hx hb dX0_dueAt_55 rfl hl (by decide) rfl (fun ls hl => ?_)
          refine lv_iinc (v := nI (d + 1)) (lv' := [(4, .int (nI (d + 1))), (3, .int (v ||| (1 <<< ((σ 13 d) &&& 31)))), (0, .ref (gAd G 9)), (1, .int a0), (2, .int a1)]) hx hb dX0_dueAt_56 hl (k := 1) rfl (nI_1 _) (by decide) rfl (fun ls hl => ?_)
          refine lv_goto (tgt := 5) hx hb dX0_dueAt_59 (by decide) ?_
          exact ih5 (d + 1) (v ||| (1 <<< ((σ 13 d) &&& 31))) _ _ _ (by omega) (by rw [hv]; exact (if_pos ⟨c_1, c_2⟩).symm) hW (lv_sub hl [0, 1, 2, 3, 4] rfl)
  exact L5 D 0 0 _ _ _ (by omega) (by first | rfl | simp [bI]) hW (lv_sub hl [0, 1, 2, 3, 4] rfl)
set_option maxHeartbeats 4000000 in
set_option maxRecDepth 100000 in
theorem k_isRungAt (l : Launch) (G : gG) (σ : gSt) (τ : Nat → Int64) (a0 a1 a2 : Int32) (D : Nat) (hD : σ 10 2 = nI D) (hD8 : D ≤ 8) : gI l yX0_isRungAt cX0_isRungAt 4 (some .boolean) 3 67 G [.ref (gAd G 9), .int a0, .int a1, .int a2] σ τ (bI (sRungAt σ a0 a1 a2 D)) σ τ := by
  refine gMet_of (by decide) (Nat.le_of_ble_eq_true rfl) ?_
  intro p e s m args below meth c C hr hlk ls hl hW
  have hx := C.1
  have hb := C.2.1
  have hl : lv_has ls 4 [(0, .ref (gAd G 9)), (1, .int a0), (2, .int a1), (3, .int a2)] := hl
  refine lv_aload_n hx hb dX0_isRungAt_0 rfl (lv_at hl 0 rfl) ?_
  refine lv_iload_n hx hb dX0_isRungAt_1 rfl (lv_at hl 2 rfl) ?_
  refine lv_iload_n hx hb dX0_isRungAt_2 rfl (lv_at hl 3 rfl) ?_
  refine g_callvI (r := sDueAt σ a1 a2 D) (σ' := σ) (rest := []) (As := [.int a1, .int a2]) C hW kv_X0_68 9 (by decide) (gL_0 rfl) rfl (k_dueAt l G σ τ a1 a2 D hD hD8) ⟨Nat.le_of_ble_eq_true rfl, Nat.le_of_ble_eq_true rfl⟩ ⟨Nat.le_refl _, Nat.le_refl _⟩ rfl hl.1 rfl (Nat.le_of_ble_eq_true rfl) dX0_isRungAt_3 (fun H locs hW => ?_)
  refine lv_iconst (v := 1) hx hb dX0_isRungAt_6 (by decide) ?_
  refine lv_iload_n hx hb dX0_isRungAt_7 rfl (lv_at hl 1 rfl) ?_
  refine lv_ishl hx hb dX0_isRungAt_8 ?_
  refine lv_iconst (v := (-1)) hx hb dX0_isRungAt_9 (by decide) ?_
  refine lv_ixor hx hb dX0_isRungAt_10 ?_
  refine lv_iand hx hb dX0_isRungAt_11 ?_
  refine lv_if_eq (tgt := 19) hx hb dX0_isRungAt_12 (by decide) (fun c_1 => ?_) (fun c_1 => ?_)
  · skip
    refine lv_iconst (v := 0) hx hb dX0_isRungAt_19 (by decide) ?_
    exact g_zret C hr hlk hW dX0_isRungAt_20 (rfl) (by rw [sRungAt, kRAt, dpos c_1]; rfl) (rfl) (rfl)
  · skip
    refine lv_iconst (v := 1) hx hb dX0_isRungAt_15 (by decide) ?_
    refine lv_goto (tgt := 20) hx hb dX0_isRungAt_16 (by decide) ?_
    exact g_zret C hr hlk hW dX0_isRungAt_20 (rfl) (by rw [sRungAt, kRAt, decide_eq_false c_1]; rfl) (rfl) (rfl)
set_option maxHeartbeats 4000000 in
set_option maxRecDepth 100000 in
theorem k_there (l : Launch) (G : gG) (σ : gSt) (τ : Nat → Int64) (a0 a1 a2 : Int32) (w : Nat) (hw : a0 = nI w) (hw5 : w < 5) : gI l yX0_willBeThere cX0_willBeThere 4 (some .boolean) 0 0 G [.ref (gAd G 9), .int a0, .int a1, .int a2] σ τ (bI (kThere (σ 17) (σ 18) (σ 16 0) w a1 a2)) σ τ := by
  refine gMet_of (by decide) (Nat.le_of_ble_eq_true rfl) ?_
  intro p e s m args below meth c C hr hlk ls hl hW
  have hx := C.1
  have hb := C.2.1
  have hl : lv_has ls 4 [(0, .ref (gAd G 9)), (1, .int a0), (2, .int a1), (3, .int a2)] := hl
  rw [hw] at hl
  refine lv_aload_n hx hb dX0_willBeThere_0 rfl (lv_at hl 0 rfl) ?_
  refine gf_X0_21 C hW (by decide) rfl dX0_willBeThere_1 ?_
  refine gf_X0_75 C hW (by decide) rfl dX0_willBeThere_4 ?_
  refine lv_iload_n hx hb dX0_willBeThere_7 rfl (lv_at hl 1 rfl) ?_
  refine g_ald (v := σ 17 w) w C hW (by decide) rfl rfl (show w < 5 by omega) (by decide) rfl dX0_willBeThere_8 ?_
  refine lv_iload_n hx hb dX0_willBeThere_9 rfl (lv_at hl 2 rfl) ?_
  refine lv_icmp_ne (tgt := 38) hx hb dX0_willBeThere_10 (by decide) (fun c_1 => ?_) (fun c_1 => ?_)
  · skip
    refine lv_iconst (v := 0) hx hb dX0_willBeThere_38 (by decide) ?_
    exact g_zret C hr hlk hW dX0_willBeThere_39 (rfl) (by simp [bI, kThere, c_1]) (rfl) (rfl)
  · skip
    refine lv_iload_n hx hb dX0_willBeThere_13 rfl (lv_at hl 3 rfl) ?_
    refine lv_aload_n hx hb dX0_willBeThere_14 rfl (lv_at hl 0 rfl) ?_
    refine gf_X0_21 C hW (by decide) rfl dX0_willBeThere_15 ?_
    refine gf_X0_76 (v := σ 16 0) C hW (by decide) rfl rfl dX0_willBeThere_18 ?_
    refine lv_aload_n hx hb dX0_willBeThere_21 rfl (lv_at hl 0 rfl) ?_
    refine gf_X0_21 C hW (by decide) rfl dX0_willBeThere_22 ?_
    refine gf_X0_79 C hW (by decide) rfl dX0_willBeThere_25 ?_
    refine lv_iload_n hx hb dX0_willBeThere_28 rfl (lv_at hl 1 rfl) ?_
    refine g_ald (v := σ 18 w) w C hW (by decide) rfl rfl (show w < 5 by omega) (by decide) rfl dX0_willBeThere_29 ?_
    refine lv_iadd hx hb dX0_willBeThere_30 ?_
    refine lv_icmp_lt (tgt := 38) hx hb dX0_willBeThere_31 (by decide) (fun c_2 => ?_) (fun c_2 => ?_)
    · skip
      refine lv_iconst (v := 0) hx hb dX0_willBeThere_38 (by decide) ?_
      exact g_zret C hr hlk hW dX0_willBeThere_39 (rfl) (by simp [bI, kThere, c_1, c_2]) (rfl) (rfl)
    · skip
      refine lv_iconst (v := 1) hx hb dX0_willBeThere_34 (by decide) ?_
      refine lv_goto (tgt := 39) hx hb dX0_willBeThere_35 (by decide) ?_
      exact g_zret C hr hlk hW dX0_willBeThere_39 (rfl) (by simp [bI, kThere, c_1, c_2]) (rfl) (rfl)
set_option maxHeartbeats 4000000 in
set_option maxRecDepth 100000 in
theorem k_dutiesRung (l : Launch) (G : gG) (σ : gSt) (τ : Nat → Int64) (a0 : Int32) (D : Nat) (hD : σ 10 2 = nI D) (hD8 : D ≤ 8) (how : ∀ d, d < D → σ 20 d = nI (σ 20 d).toNatClampNeg ∧ (σ 20 d).toNatClampNeg < 5) : gI l yX0_dutiesRung cX0_dutiesRung 4 (some .int) 2 43 G [.ref (gAd G 9), .int a0] σ τ (sDR σ a0 D) σ τ := by
  refine gMet_of (by decide) (Nat.le_of_ble_eq_true rfl) ?_
  intro p e s m args below meth c C hr hlk ls hl hW
  have hx := C.1
  have hb := C.2.1
  have hl : lv_has ls 4 [(0, .ref (gAd G 9)), (1, .int a0)] := hl
  refine lv_iconst (v := 0) hx hb dX0_dutiesRung_0 (by decide) ?_
  refine lv_istore_n (lv' := [(2, .int 0), (0, .ref (gAd G 9)), (1, .int a0)]) hx hb dX0_dutiesRung_1 rfl hl (by decide) rfl (fun ls hl => ?_)
  refine lv_iconst (v := 0) hx hb dX0_dutiesRung_2 (by decide) ?_
  refine lv_istore_n (lv' := [(3, .int 0), (2, .int 0), (0, .ref (gAd G 9)), (1, .int a0)]) hx hb dX0_dutiesRung_3 rfl hl (by decide) rfl (fun ls hl => ?_)
  have L4 : ∀ (n : Nat) (d : Nat) (v : Int32) (H : Heap) (locs : List Loc) (ls : Array Slot), n + d = D → v = (sDR σ a0 d) → gW G s σ τ H locs → lv_has ls 4 [(3, .int (nI d)), (2, .int v), (0, .ref (gAd G 9)), (1, .int a0)] → W p l e (gRm 2 43) s m args below meth c H locs 0 0 (MQ below (gQi G (sDR σ a0 D) σ τ) args s 0 0 (gA G)) (F0 m 4 ls []) := by
    intro n
    induction n with
    | zero =>
      intro d v H locs ls hm hv hW hl
      refine lv_iload_n hx hb dX0_dutiesRung_4 rfl (lv_at hl 0 rfl) ?_
      refine lv_aload_n hx hb dX0_dutiesRung_5 rfl (lv_at hl 2 rfl) ?_
      refine gf_X0_12 C hW (by decide) rfl dX0_dutiesRung_6 ?_
      refine gf_X0_55 (v := nI D) C hW (by decide) rfl hD dX0_dutiesRung_9 ?_
      refine lv_icmp_ge (tgt := 62) hx hb dX0_dutiesRung_12 (by decide) (fun _ => ?_) (fun zz => absurd (show nI D ≤ nI d from nI_le (by omega) (by omega)) zz)
      refine lv_iload_n hx hb dX0_dutiesRung_62 rfl (lv_at hl 1 rfl) ?_
      exact g_iret C hr hlk hW dX0_dutiesRung_63 (by rw [hv, show d = D by omega]) (rfl) (rfl)
    | succ n ih4 =>
      intro d v H locs ls hm hv hW hl
      refine lv_iload_n hx hb dX0_dutiesRung_4 rfl (lv_at hl 0 rfl) ?_
      refine lv_aload_n hx hb dX0_dutiesRung_5 rfl (lv_at hl 2 rfl) ?_
      refine gf_X0_12 C hW (by decide) rfl dX0_dutiesRung_6 ?_
      refine gf_X0_55 (v := nI D) C hW (by decide) rfl hD dX0_dutiesRung_9 ?_
      refine lv_icmp_ge (tgt := 62) hx hb dX0_dutiesRung_12 (by decide) (fun zz => absurd zz (show ¬ nI D ≤ nI d from nI_ge (by omega) (by omega))) (fun _ => ?_)
      refine lv_aload_n hx hb dX0_dutiesRung_15 rfl (lv_at hl 2 rfl) ?_
      refine lv_iload_n hx hb dX0_dutiesRung_16 rfl (lv_at hl 0 rfl) ?_
      refine lv_iload_n hx hb dX0_dutiesRung_17 rfl (lv_at hl 3 rfl) ?_
      refine g_callvI (r := bI (sDue σ a0 d)) (σ' := σ) (rest := []) (As := [.int (nI d), .int a0]) C hW kv_X0_61 9 (by decide) (gL_0 rfl) rfl (k_isDue l G σ τ (nI d) a0 d rfl (by omega)) ⟨Nat.le_of_ble_eq_true rfl, Nat.le_of_ble_eq_true rfl⟩ ⟨Nat.le_refl _, Nat.le_refl _⟩ rfl hl.1 rfl (Nat.le_of_ble_eq_true rfl) dX0_dutiesRung_18 (fun H locs hW => ?_)
      refine lv_if_eq (tgt := 56) hx hb dX0_dutiesRung_21 (by decide) (fun c_1 => ?_) (fun c_1 => ?_)
      · skip
        replace c_1 : (sDue σ a0 d) = false := bI_eq0.mp c_1
        refine lv_iinc (v := nI (d + 1)) (lv' := [(3, .int (nI (d + 1))), (2, .int v), (0, .ref (gAd G 9)), (1, .int a0)]) hx hb dX0_dutiesRung_56 hl (k := 0) rfl (nI_1 _) (by decide) rfl (fun ls hl => ?_)
        refine lv_goto (tgt := 4) hx hb dX0_dutiesRung_59 (by decide) ?_
        exact ih4 (d + 1) v _ _ _ (by omega) (by rw [hv]; exact (if_neg (fun q => bneg c_1 q.1)).symm) hW (lv_sub hl [0, 1, 2, 3] rfl)
      · skip
        replace c_1 : (sDue σ a0 d) = true := bI_ne0.mp c_1
        have hw_ := how d (by omega)
        refine lv_aload_n hx hb dX0_dutiesRung_24 rfl (lv_at hl 2 rfl) ?_
        refine lv_aload_n hx hb dX0_dutiesRung_25 rfl (lv_at hl 2 rfl) ?_
        refine gf_X0_21 C hW (by decide) rfl dX0_dutiesRung_26 ?_
        refine gf_X0_58 C hW (by decide) rfl dX0_dutiesRung_29 ?_
        refine lv_iload_n hx hb dX0_dutiesRung_32 rfl (lv_at hl 0 rfl) ?_
        refine g_ald (v := σ 20 d) d C hW (by decide) rfl rfl (show d < 8 by omega) (by decide) rfl dX0_dutiesRung_33 ?_
        refine lv_aload_n hx hb dX0_dutiesRung_34 rfl (lv_at hl 2 rfl) ?_
        refine gf_X0_12 C hW (by decide) rfl dX0_dutiesRung_35 ?_
        refine gf_X0_65 C hW (by decide) rfl dX0_dutiesRung_38 ?_
        refine lv_iload_n hx hb dX0_dutiesRung_41 rfl (lv_at hl 0 rfl) ?_
        refine g_ald (v := σ 13 d) d C hW (by decide) rfl rfl (show d < 8 by omega) (by decide) rfl dX0_dutiesRung_42 ?_
        refine lv_iload_n hx hb dX0_dutiesRung_43 rfl (lv_at hl 3 rfl) ?_
        refine g_callvI (r := bI (kThere (σ 17) (σ 18) (σ 16 0) ((σ 20 d).toNatClampNeg) (σ 13 d) a0)) (σ' := σ) (rest := []) (As := [.int (σ 20 d), .int (σ 13 d), .int a0]) C hW kv_X0_71 9 (by decide) (gL_0 rfl) rfl (k_there l G σ τ (σ 20 d) (σ 13 d) a0 ((σ 20 d).toNatClampNeg) hw_.1 (by omega)) ⟨Nat.le_of_ble_eq_true rfl, Nat.le_of_ble_eq_true rfl⟩ ⟨Nat.le_refl _, Nat.le_refl _⟩ rfl hl.1 rfl (Nat.le_of_ble_eq_true rfl) dX0_dutiesRung_44 (fun H locs hW => ?_)
        refine lv_if_ne (tgt := 56) hx hb dX0_dutiesRung_47 (by decide) (fun c_2 => ?_) (fun c_2 => ?_)
        · skip
          replace c_2 : (kThere (σ 17) (σ 18) (σ 16 0) ((σ 20 d).toNatClampNeg) (σ 13 d) a0) = true := bI_ne0.mp c_2
          refine lv_iinc (v := nI (d + 1)) (lv' := [(3, .int (nI (d + 1))), (2, .int v), (0, .ref (gAd G 9)), (1, .int a0)]) hx hb dX0_dutiesRung_56 hl (k := 0) rfl (nI_1 _) (by decide) rfl (fun ls hl => ?_)
          refine lv_goto (tgt := 4) hx hb dX0_dutiesRung_59 (by decide) ?_
          exact ih4 (d + 1) v _ _ _ (by omega) (by rw [hv]; exact (if_neg (fun q => bneg q.2 c_2)).symm) hW (lv_sub hl [0, 1, 2, 3] rfl)
        · skip
          replace c_2 : (kThere (σ 17) (σ 18) (σ 16 0) ((σ 20 d).toNatClampNeg) (σ 13 d) a0) = false := bI_eq0.mp c_2
          refine lv_iload_n hx hb dX0_dutiesRung_50 rfl (lv_at hl 1 rfl) ?_
          refine lv_iconst (v := 1) hx hb dX0_dutiesRung_51 (by decide) ?_
          refine lv_iload_n hx hb dX0_dutiesRung_52 rfl (lv_at hl 0 rfl) ?_
          refine lv_ishl hx hb dX0_dutiesRung_53 ?_
          refine lv_ior hx hb dX0_dutiesRung_54 ?_
          refine lv_istore_n (lv' := [(2, .int (v ||| (1 <<< ((nI d) &&& 31)))), (3, .int (nI d)), (0, .ref (gAd G 9)), (1, .int a0)]) hx hb dX0_dutiesRung_55 rfl hl (by decide) rfl (fun ls hl => ?_)
          refine lv_iinc (v := nI (d + 1)) (lv' := [(3, .int (nI (d + 1))), (2, .int (v ||| (1 <<< ((nI d) &&& 31)))), (0, .ref (gAd G 9)), (1, .int a0)]) hx hb dX0_dutiesRung_56 hl (k := 1) rfl (nI_1 _) (by decide) rfl (fun ls hl => ?_)
          refine lv_goto (tgt := 4) hx hb dX0_dutiesRung_59 (by decide) ?_
          exact ih4 (d + 1) (v ||| (1 <<< ((nI d) &&& 31))) _ _ _ (by omega) (by rw [hv]; exact (if_pos ⟨c_1, c_2⟩).symm) hW (lv_sub hl [0, 1, 2, 3] rfl)
  exact L4 D 0 0 _ _ _ (by omega) (by first | rfl | simp [bI]) hW (lv_sub hl [0, 1, 2, 3] rfl)
set_option maxHeartbeats 4000000 in
set_option maxRecDepth 100000 in
theorem k_owners (l : Launch) (G : gG) (σ : gSt) (τ : Nat → Int64) (a0 : Int32) (D : Nat) (hD : σ 10 2 = nI D) (hD8 : D ≤ 8) : gI l yX0_owners cX0_owners 4 (some .int) 1 21 G [.ref (gAd G 9), .int a0] σ τ (kOwn (σ 20) a0 D) σ τ := by
  refine gMet_of (by decide) (Nat.le_of_ble_eq_true rfl) ?_
  intro p e s m args below meth c C hr hlk ls hl hW
  have hx := C.1
  have hb := C.2.1
  have hl : lv_has ls 4 [(0, .ref (gAd G 9)), (1, .int a0)] := hl
  refine lv_iconst (v := 0) hx hb dX0_owners_0 (by decide) ?_
  refine lv_istore_n (lv' := [(2, .int 0), (0, .ref (gAd G 9)), (1, .int a0)]) hx hb dX0_owners_1 rfl hl (by decide) rfl (fun ls hl => ?_)
  refine lv_iconst (v := 0) hx hb dX0_owners_2 (by decide) ?_
  refine lv_istore_n (lv' := [(3, .int 0), (2, .int 0), (0, .ref (gAd G 9)), (1, .int a0)]) hx hb dX0_owners_3 rfl hl (by decide) rfl (fun ls hl => ?_)
  have L4 : ∀ (n : Nat) (d : Nat) (v : Int32) (H : Heap) (locs : List Loc) (ls : Array Slot), n + d = D → v = (kOwn (σ 20) a0 d) → gW G s σ τ H locs → lv_has ls 4 [(3, .int (nI d)), (2, .int v), (0, .ref (gAd G 9)), (1, .int a0)] → W p l e (gRm 1 21) s m args below meth c H locs 0 0 (MQ below (gQi G (kOwn (σ 20) a0 D) σ τ) args s 0 0 (gA G)) (F0 m 4 ls []) := by
    intro n
    induction n with
    | zero =>
      intro d v H locs ls hm hv hW hl
      refine lv_iload_n hx hb dX0_owners_4 rfl (lv_at hl 0 rfl) ?_
      refine lv_aload_n hx hb dX0_owners_5 rfl (lv_at hl 2 rfl) ?_
      refine gf_X0_12 C hW (by decide) rfl dX0_owners_6 ?_
      refine gf_X0_55 (v := nI D) C hW (by decide) rfl hD dX0_owners_9 ?_
      refine lv_icmp_ge (tgt := 44) hx hb dX0_owners_12 (by decide) (fun _ => ?_) (fun zz => absurd (show nI D ≤ nI d from nI_le (by omega) (by omega)) zz)
      refine lv_iload_n hx hb dX0_owners_44 rfl (lv_at hl 1 rfl) ?_
      exact g_iret C hr hlk hW dX0_owners_45 (by rw [hv, show d = D by omega]) (rfl) (rfl)
    | succ n ih4 =>
      intro d v H locs ls hm hv hW hl
      refine lv_iload_n hx hb dX0_owners_4 rfl (lv_at hl 0 rfl) ?_
      refine lv_aload_n hx hb dX0_owners_5 rfl (lv_at hl 2 rfl) ?_
      refine gf_X0_12 C hW (by decide) rfl dX0_owners_6 ?_
      refine gf_X0_55 (v := nI D) C hW (by decide) rfl hD dX0_owners_9 ?_
      refine lv_icmp_ge (tgt := 44) hx hb dX0_owners_12 (by decide) (fun zz => absurd zz (show ¬ nI D ≤ nI d from nI_ge (by omega) (by omega))) (fun _ => ?_)
      refine lv_iload_n hx hb dX0_owners_15 rfl (lv_at hl 3 rfl) ?_
      refine lv_iload_n hx hb dX0_owners_16 rfl (lv_at hl 0 rfl) ?_
      refine g_callnI (r := kBit a0 (nI d)) (σ' := σ) (rest := []) (As := [.int a0, .int (nI d)]) (host := RX9) C.2.2.2.2.2.2.1 C hW kn_X9_bit (k_bit l G σ τ a0 (nI d)) ⟨Nat.le_of_ble_eq_true rfl, Nat.le_of_ble_eq_true rfl⟩ ⟨Nat.le_refl _, Nat.le_refl _⟩ rfl hl.1 rfl (Nat.le_of_ble_eq_true rfl) dX0_owners_17 (fun H locs hW => ?_)
      refine lv_iconst (v := 1) hx hb dX0_owners_20 (by decide) ?_
      refine lv_icmp_ne (tgt := 38) hx hb dX0_owners_21 (by decide) (fun c_1 => ?_) (fun c_1 => ?_)
      · skip
        refine lv_iinc (v := nI (d + 1)) (lv' := [(3, .int (nI (d + 1))), (2, .int v), (0, .ref (gAd G 9)), (1, .int a0)]) hx hb dX0_owners_38 hl (k := 0) rfl (nI_1 _) (by decide) rfl (fun ls hl => ?_)
        refine lv_goto (tgt := 4) hx hb dX0_owners_41 (by decide) ?_
        exact ih4 (d + 1) v _ _ _ (by omega) (by rw [kOwn, ← hv, if_neg c_1]) hW (lv_sub hl [0, 1, 2, 3] rfl)
      · skip
        refine lv_iload_n hx hb dX0_owners_24 rfl (lv_at hl 1 rfl) ?_
        refine lv_iconst (v := 1) hx hb dX0_owners_25 (by decide) ?_
        refine lv_aload_n hx hb dX0_owners_26 rfl (lv_at hl 2 rfl) ?_
        refine gf_X0_21 C hW (by decide) rfl dX0_owners_27 ?_
        refine gf_X0_58 C hW (by decide) rfl dX0_owners_30 ?_
        refine lv_iload_n hx hb dX0_owners_33 rfl (lv_at hl 0 rfl) ?_
        refine g_ald (v := σ 20 d) d C hW (by decide) rfl rfl (show d < 8 by omega) (by decide) rfl dX0_owners_34 ?_
        refine lv_ishl hx hb dX0_owners_35 ?_
        refine lv_ior hx hb dX0_owners_36 ?_
        refine lv_istore_n (lv' := [(2, .int (v ||| (1 <<< ((σ 20 d) &&& 31)))), (3, .int (nI d)), (0, .ref (gAd G 9)), (1, .int a0)]) hx hb dX0_owners_37 rfl hl (by decide) rfl (fun ls hl => ?_)
        refine lv_iinc (v := nI (d + 1)) (lv' := [(3, .int (nI (d + 1))), (2, .int (v ||| (1 <<< ((σ 20 d) &&& 31)))), (0, .ref (gAd G 9)), (1, .int a0)]) hx hb dX0_owners_38 hl (k := 1) rfl (nI_1 _) (by decide) rfl (fun ls hl => ?_)
        refine lv_goto (tgt := 4) hx hb dX0_owners_41 (by decide) ?_
        exact ih4 (d + 1) (v ||| (1 <<< ((σ 20 d) &&& 31))) _ _ _ (by omega) (by rw [kOwn, ← hv, if_pos c_1]) hW (lv_sub hl [0, 1, 2, 3] rfl)
  exact L4 D 0 0 _ _ _ (by omega) (by first | rfl | simp [bI]) hW (lv_sub hl [0, 1, 2, 3] rfl)
set_option maxHeartbeats 4000000 in
set_option maxRecDepth 100000 in
theorem k_rung (l : Launch) (G : gG) (σ : gSt) (τ : Nat → Int64) (a0 : Int32) (D : Nat) (hD : σ 10 2 = nI D) (hD8 : D ≤ 8) (how : ∀ d, d < D → σ 20 d = nI (σ 20 d).toNatClampNeg ∧ (σ 20 d).toNatClampNeg < 5) : gI l yX0_rung cX0_rung 2 (some .int) 3 66 G [.ref (gAd G 9), .int a0] σ τ (sRung σ a0 D) σ τ := by
  refine gMet_of (by decide) (Nat.le_of_ble_eq_true rfl) ?_
  intro p e s m args below meth c C hr hlk ls hl hW
  have hx := C.1
  have hb := C.2.1
  have hl : lv_has ls 2 [(0, .ref (gAd G 9)), (1, .int a0)] := hl
  refine lv_aload_n hx hb dX0_rung_0 rfl (lv_at hl 0 rfl) ?_
  refine lv_aload_n hx hb dX0_rung_1 rfl (lv_at hl 0 rfl) ?_
  refine lv_iload_n hx hb dX0_rung_2 rfl (lv_at hl 1 rfl) ?_
  refine g_callvI (r := sDR σ a0 D) (σ' := σ) (rest := [.ref (gAd G 9)]) (As := [.int a0]) C hW kv_X0_82 9 (by decide) (gL_0 rfl) rfl (k_dutiesRung l G σ τ a0 D hD hD8 how) ⟨Nat.le_of_ble_eq_true rfl, Nat.le_of_ble_eq_true rfl⟩ ⟨Nat.le_refl _, Nat.le_refl _⟩ rfl hl.1 rfl (Nat.le_of_ble_eq_true rfl) dX0_rung_3 (fun H locs hW => ?_)
  refine g_callvI (r := kOwn (σ 20) (sDR σ a0 D) D) (σ' := σ) (rest := []) (As := [.int (sDR σ a0 D)]) C hW kv_X0_86 9 (by decide) (gL_0 rfl) rfl (k_owners l G σ τ (sDR σ a0 D) D hD hD8) ⟨Nat.le_of_ble_eq_true rfl, Nat.le_of_ble_eq_true rfl⟩ ⟨Nat.le_refl _, Nat.le_refl _⟩ rfl hl.1 rfl (Nat.le_of_ble_eq_true rfl) dX0_rung_6 (fun H locs hW => ?_)
  exact g_iret C hr hlk hW dX0_rung_9 (rfl) (rfl) (rfl)
set_option maxHeartbeats 4000000 in
set_option maxRecDepth 100000 in
theorem k_dutiesOf (l : Launch) (G : gG) (σ : gSt) (τ : Nat → Int64) (a0 : Int32) (D : Nat) (hD : σ 10 2 = nI D) (hD8 : D ≤ 8) : gI l yX0_dutiesOf cX0_dutiesOf 4 (some .int) 0 0 G [.ref (gAd G 9), .int a0] σ τ (kOf (σ 20) a0 D) σ τ := by
  refine gMet_of (by decide) (Nat.le_of_ble_eq_true rfl) ?_
  intro p e s m args below meth c C hr hlk ls hl hW
  have hx := C.1
  have hb := C.2.1
  have hl : lv_has ls 4 [(0, .ref (gAd G 9)), (1, .int a0)] := hl
  refine lv_iconst (v := 0) hx hb dX0_dutiesOf_0 (by decide) ?_
  refine lv_istore_n (lv' := [(2, .int 0), (0, .ref (gAd G 9)), (1, .int a0)]) hx hb dX0_dutiesOf_1 rfl hl (by decide) rfl (fun ls hl => ?_)
  refine lv_iconst (v := 0) hx hb dX0_dutiesOf_2 (by decide) ?_
  refine lv_istore_n (lv' := [(3, .int 0), (2, .int 0), (0, .ref (gAd G 9)), (1, .int a0)]) hx hb dX0_dutiesOf_3 rfl hl (by decide) rfl (fun ls hl => ?_)
  have L4 : ∀ (n : Nat) (d : Nat) (v : Int32) (H : Heap) (locs : List Loc) (ls : Array Slot), n + d = D → v = (kOf (σ 20) a0 d) → gW G s σ τ H locs → lv_has ls 4 [(3, .int (nI d)), (2, .int v), (0, .ref (gAd G 9)), (1, .int a0)] → W p l e (gRm 0 0) s m args below meth c H locs 0 0 (MQ below (gQi G (kOf (σ 20) a0 D) σ τ) args s 0 0 (gA G)) (F0 m 4 ls []) := by
    intro n
    induction n with
    | zero =>
      intro d v H locs ls hm hv hW hl
      refine lv_iload_n hx hb dX0_dutiesOf_4 rfl (lv_at hl 0 rfl) ?_
      refine lv_aload_n hx hb dX0_dutiesOf_5 rfl (lv_at hl 2 rfl) ?_
      refine gf_X0_12 C hW (by decide) rfl dX0_dutiesOf_6 ?_
      refine gf_X0_55 (v := nI D) C hW (by decide) rfl hD dX0_dutiesOf_9 ?_
      refine lv_icmp_ge (tgt := 40) hx hb dX0_dutiesOf_12 (by decide) (fun _ => ?_) (fun zz => absurd (show nI D ≤ nI d from nI_le (by omega) (by omega)) zz)
      refine lv_iload_n hx hb dX0_dutiesOf_40 rfl (lv_at hl 1 rfl) ?_
      exact g_iret C hr hlk hW dX0_dutiesOf_41 (by rw [hv, show d = D by omega]) (rfl) (rfl)
    | succ n ih4 =>
      intro d v H locs ls hm hv hW hl
      refine lv_iload_n hx hb dX0_dutiesOf_4 rfl (lv_at hl 0 rfl) ?_
      refine lv_aload_n hx hb dX0_dutiesOf_5 rfl (lv_at hl 2 rfl) ?_
      refine gf_X0_12 C hW (by decide) rfl dX0_dutiesOf_6 ?_
      refine gf_X0_55 (v := nI D) C hW (by decide) rfl hD dX0_dutiesOf_9 ?_
      refine lv_icmp_ge (tgt := 40) hx hb dX0_dutiesOf_12 (by decide) (fun zz => absurd zz (show ¬ nI D ≤ nI d from nI_ge (by omega) (by omega))) (fun _ => ?_)
      refine lv_aload_n hx hb dX0_dutiesOf_15 rfl (lv_at hl 2 rfl) ?_
      refine gf_X0_21 C hW (by decide) rfl dX0_dutiesOf_16 ?_
      refine gf_X0_58 C hW (by decide) rfl dX0_dutiesOf_19 ?_
      refine lv_iload_n hx hb dX0_dutiesOf_22 rfl (lv_at hl 0 rfl) ?_
      refine g_ald (v := σ 20 d) d C hW (by decide) rfl rfl (show d < 8 by omega) (by decide) rfl dX0_dutiesOf_23 ?_
      refine lv_iload_n hx hb dX0_dutiesOf_24 rfl (lv_at hl 3 rfl) ?_
      refine lv_icmp_ne (tgt := 34) hx hb dX0_dutiesOf_25 (by decide) (fun c_1 => ?_) (fun c_1 => ?_)
      · skip
        refine lv_iinc (v := nI (d + 1)) (lv' := [(3, .int (nI (d + 1))), (2, .int v), (0, .ref (gAd G 9)), (1, .int a0)]) hx hb dX0_dutiesOf_34 hl (k := 0) rfl (nI_1 _) (by decide) rfl (fun ls hl => ?_)
        refine lv_goto (tgt := 4) hx hb dX0_dutiesOf_37 (by decide) ?_
        exact ih4 (d + 1) v _ _ _ (by omega) (by rw [kOf, ← hv, if_neg c_1]) hW (lv_sub hl [0, 1, 2, 3] rfl)
      · skip
        refine lv_iload_n hx hb dX0_dutiesOf_28 rfl (lv_at hl 1 rfl) ?_
        refine lv_iconst (v := 1) hx hb dX0_dutiesOf_29 (by decide) ?_
        refine lv_iload_n hx hb dX0_dutiesOf_30 rfl (lv_at hl 0 rfl) ?_
        refine lv_ishl hx hb dX0_dutiesOf_31 ?_
        refine lv_ior hx hb dX0_dutiesOf_32 ?_
        refine lv_istore_n (lv' := [(2, .int (v ||| (1 <<< ((nI d) &&& 31)))), (3, .int (nI d)), (0, .ref (gAd G 9)), (1, .int a0)]) hx hb dX0_dutiesOf_33 rfl hl (by decide) rfl (fun ls hl => ?_)
        refine lv_iinc (v := nI (d + 1)) (lv' := [(3, .int (nI (d + 1))), (2, .int (v ||| (1 <<< ((nI d) &&& 31)))), (0, .ref (gAd G 9)), (1, .int a0)]) hx hb dX0_dutiesOf_34 hl (k := 1) rfl (nI_1 _) (by decide) rfl (fun ls hl => ?_)
        refine lv_goto (tgt := 4) hx hb dX0_dutiesOf_37 (by decide) ?_
        exact ih4 (d + 1) (v ||| (1 <<< ((nI d) &&& 31))) _ _ _ (by omega) (by rw [kOf, ← hv, if_pos c_1]) hW (lv_sub hl [0, 1, 2, 3] rfl)
  exact L4 D 0 0 _ _ _ (by omega) (by first | rfl | simp [bI]) hW (lv_sub hl [0, 1, 2, 3] rfl)
set_option maxHeartbeats 4000000 in
set_option maxRecDepth 100000 in
theorem k_passMinute (l : Launch) (G : gG) (σ : gSt) (τ : Nat → Int64) (D : Nat) (hD : σ 10 2 = nI D) (hD8 : D ≤ 8) (N : Nat) (hN : σ 10 1 = nI N) (hN5 : N ≤ 5) (how : ∀ d, d < D → σ 20 d = nI (σ 20 d).toNatClampNeg ∧ (σ 20 d).toNatClampNeg < 5) : gI l yX0_passMinute cX0_passMinute 3 (some .int) 4 87 G [.ref (gAd G 9)] σ τ (kBC (sRung σ (σ 16 0) D)) (kMin σ D N) τ := by
  refine gMet_of (by decide) (Nat.le_of_ble_eq_true rfl) ?_
  intro p e s m args below meth c C hr hlk ls hl hW
  have hx := C.1
  have hb := C.2.1
  have hl : lv_has ls 3 [(0, .ref (gAd G 9))] := hl
  refine lv_aload_n hx hb dX0_passMinute_0 rfl (lv_at hl 0 rfl) ?_
  refine lv_aload_n hx hb dX0_passMinute_1 rfl (lv_at hl 0 rfl) ?_
  refine gf_X0_21 C hW (by decide) rfl dX0_passMinute_2 ?_
  refine gf_X0_76 (v := σ 16 0) C hW (by decide) rfl rfl dX0_passMinute_5 ?_
  refine g_callvI (r := sRung σ (σ 16 0) D) (σ' := σ) (rest := []) (As := [.int (σ 16 0)]) C hW kv_X0_89 9 (by decide) (gL_0 rfl) rfl (k_rung l G σ τ (σ 16 0) D hD hD8 how) ⟨Nat.le_of_ble_eq_true rfl, Nat.le_of_ble_eq_true rfl⟩ ⟨Nat.le_refl _, Nat.le_refl _⟩ rfl hl.1 rfl (Nat.le_of_ble_eq_true rfl) dX0_passMinute_8 (fun H locs hW => ?_)
  refine lv_istore_n (lv' := [(1, .int (sRung σ (σ 16 0) D)), (0, .ref (gAd G 9))]) hx hb dX0_passMinute_11 rfl hl (by decide) rfl (fun ls hl => ?_)
  refine lv_iconst (v := 0) hx hb dX0_passMinute_12 (by decide) ?_
  refine lv_istore_n (lv' := [(2, .int 0), (1, .int (sRung σ (σ 16 0) D)), (0, .ref (gAd G 9))]) hx hb dX0_passMinute_13 rfl hl (by decide) rfl (fun ls hl => ?_)
  have L14 : ∀ (n : Nat) (k : Nat) (H : Heap) (locs : List Loc) (ls : Array Slot), n + k = N → gW G s (kMinP σ (sRung σ (σ 16 0) D) k) τ H locs → lv_has ls 3 [(2, .int (nI k)), (1, .int (sRung σ (σ 16 0) D)), (0, .ref (gAd G 9))] → W p l e (gRm 4 87) s m args below meth c H locs 0 0 (MQ below (gQi G (kBC (sRung σ (σ 16 0) D)) (kMin σ D N) τ) args s 0 0 (gA G)) (F0 m 14 ls []) := by
    intro n
    induction n with
    | zero =>
      intro k H locs ls hm hW hl
      refine lv_iload_n hx hb dX0_passMinute_14 rfl (lv_at hl 0 rfl) ?_
      refine lv_aload_n hx hb dX0_passMinute_15 rfl (lv_at hl 2 rfl) ?_
      refine gf_X0_12 C hW (by decide) rfl dX0_passMinute_16 ?_
      refine gf_X0_92 (v := nI N) C hW (by decide) rfl (by rw [kMinP_ne (by decide) (by decide)]; exact hN) dX0_passMinute_19 ?_
      refine lv_icmp_ge (tgt := 72) hx hb dX0_passMinute_22 (by decide) (fun _ => ?_) (fun zz => absurd (show nI N ≤ nI k from nI_le (by omega) (by omega)) zz)
      have hk : k = N := by omega
      rw [hk] at hW
      refine lv_aload_n hx hb dX0_passMinute_72 rfl (lv_at hl 2 rfl) ?_
      refine gf_X0_21 C hW (by decide) rfl dX0_passMinute_73 ?_
      refine lv_dup hx hb dX0_passMinute_76 rfl ?_
      refine gf_X0_76 (v := (kMinP σ (sRung σ (σ 16 0) D) N) 16 0) C hW (by decide) rfl rfl dX0_passMinute_77 ?_
      refine lv_iconst (v := 1) hx hb dX0_passMinute_80 (by decide) ?_
      refine lv_iadd hx hb dX0_passMinute_81 ?_
      refine gp_X0_76 C hW (by decide) rfl dX0_passMinute_82 (fun H locs hW => ?_)
      refine lv_iload_n hx hb dX0_passMinute_85 rfl (lv_at hl 1 rfl) ?_
      refine g_callsI (r := kBC (sRung σ (σ 16 0) D)) (σ' := gu (kMinP σ (sRung σ (σ 16 0) D) N) 16 0 (((kMinP σ (sRung σ (σ 16 0) D) N) 16 0) + 1)) (rest := []) (As := [.int (sRung σ (σ 16 0) D)]) C hW ks_X0_101 (k_bitCount l G (gu (kMinP σ (sRung σ (σ 16 0) D) N) 16 0 (((kMinP σ (sRung σ (σ 16 0) D) N) 16 0) + 1)) τ (sRung σ (σ 16 0) D)) ⟨Nat.le_of_ble_eq_true rfl, Nat.le_of_ble_eq_true rfl⟩ ⟨Nat.le_refl _, Nat.le_refl _⟩ rfl hl.1 rfl (Nat.le_of_ble_eq_true rfl) dX0_passMinute_86 (fun H locs hW => ?_)
      exact g_iret C hr hlk hW dX0_passMinute_89 (rfl) (rfl) (rfl)
    | succ n ih14 =>
      intro k H locs ls hm hW hl
      refine lv_iload_n hx hb dX0_passMinute_14 rfl (lv_at hl 0 rfl) ?_
      refine lv_aload_n hx hb dX0_passMinute_15 rfl (lv_at hl 2 rfl) ?_
      refine gf_X0_12 C hW (by decide) rfl dX0_passMinute_16 ?_
      refine gf_X0_92 (v := nI N) C hW (by decide) rfl (by rw [kMinP_ne (by decide) (by decide)]; exact hN) dX0_passMinute_19 ?_
      refine lv_icmp_ge (tgt := 72) hx hb dX0_passMinute_22 (by decide) (fun zz => absurd zz (show ¬ nI N ≤ nI k from nI_ge (by omega) (by omega))) (fun _ => ?_)
      refine lv_aload_n hx hb dX0_passMinute_25 rfl (lv_at hl 2 rfl) ?_
      refine gf_X0_21 C hW (by decide) rfl dX0_passMinute_26 ?_
      refine gf_X0_95 C hW (by decide) rfl dX0_passMinute_29 ?_
      refine lv_iload_n hx hb dX0_passMinute_32 rfl (lv_at hl 0 rfl) ?_
      refine lv_dup2_11 hx hb dX0_passMinute_33 rfl rfl ?_
      refine g_ald (v := (kMinP σ (sRung σ (σ 16 0) D) k) 19 k) k C hW (by decide) rfl rfl (show k < 5 by omega) (by decide) rfl dX0_passMinute_34 ?_
      refine lv_iload_n hx hb dX0_passMinute_35 rfl (lv_at hl 1 rfl) ?_
      refine lv_iload_n hx hb dX0_passMinute_36 rfl (lv_at hl 0 rfl) ?_
      refine g_callnI (r := kBit (sRung σ (σ 16 0) D) (nI k)) (σ' := kMinP σ (sRung σ (σ 16 0) D) k) (rest := [.int ((kMinP σ (sRung σ (σ 16 0) D) k) 19 k), .int (nI k), .ref (gAd G 19)]) (As := [.int (sRung σ (σ 16 0) D), .int (nI k)]) (host := RX9) C.2.2.2.2.2.2.1 C hW kn_X9_bit (k_bit l G (kMinP σ (sRung σ (σ 16 0) D) k) τ (sRung σ (σ 16 0) D) (nI k)) ⟨Nat.le_of_ble_eq_true rfl, Nat.le_of_ble_eq_true rfl⟩ ⟨Nat.le_refl _, Nat.le_refl _⟩ rfl hl.1 rfl (Nat.le_of_ble_eq_true rfl) dX0_passMinute_37 (fun H locs hW => ?_)
      refine lv_iadd hx hb dX0_passMinute_40 ?_
      refine g_ast k C hW (by decide) rfl rfl (show k < 5 by omega) (by decide) dX0_passMinute_41 (fun H locs hW => ?_)
      refine lv_aload_n hx hb dX0_passMinute_42 rfl (lv_at hl 2 rfl) ?_
      refine gf_X0_21 C hW (by decide) rfl dX0_passMinute_43 ?_
      refine gf_X0_79 C hW (by decide) rfl dX0_passMinute_46 ?_
      refine lv_iload_n hx hb dX0_passMinute_49 rfl (lv_at hl 0 rfl) ?_
      refine lv_iconst (v := 0) hx hb dX0_passMinute_50 (by decide) ?_
      refine lv_aload_n hx hb dX0_passMinute_51 rfl (lv_at hl 2 rfl) ?_
      refine gf_X0_21 C hW (by decide) rfl dX0_passMinute_52 ?_
      refine gf_X0_79 C hW (by decide) rfl dX0_passMinute_55 ?_
      refine lv_iload_n hx hb dX0_passMinute_58 rfl (lv_at hl 0 rfl) ?_
      refine g_ald (v := (kMinP σ (sRung σ (σ 16 0) D) k) 18 k) k C hW (by decide) rfl rfl (show k < 5 by omega) (by decide) rfl dX0_passMinute_59 ?_
      refine lv_iconst (v := 1) hx hb dX0_passMinute_60 (by decide) ?_
      refine lv_isub hx hb dX0_passMinute_61 ?_
      refine g_max C hl.1 kml_X0_98 (Nat.le_of_ble_eq_true rfl) (Nat.le_of_ble_eq_true rfl) (Nat.le_refl _) (Nat.le_refl _) dX0_passMinute_62 ?_
      refine g_ast k C hW (by decide) rfl rfl (show k < 5 by omega) (by decide) dX0_passMinute_65 (fun H locs hW => ?_)
      refine lv_iinc (v := nI (k + 1)) (lv' := [(2, .int (nI (k + 1))), (1, .int (sRung σ (σ 16 0) D)), (0, .ref (gAd G 9))]) hx hb dX0_passMinute_66 hl (k := 0) rfl (nI_1 _) (by decide) rfl (fun ls hl => ?_)
      refine lv_goto (tgt := 14) hx hb dX0_passMinute_69 (by decide) ?_
      exact ih14 (k + 1) _ _ _ (by omega)  (by rw [kMinP]; exact hW) (lv_sub hl [0, 1, 2] rfl)
  exact L14 N 0 _ _ _ (by omega)  hW (lv_sub hl [0, 1, 2] rfl)
set_option maxHeartbeats 4000000 in
set_option maxRecDepth 100000 in
theorem k_tolledInAll (l : Launch) (G : gG) (σ : gSt) (τ : Nat → Int64) (N : Nat) (hN : σ 10 1 = nI N) (hN5 : N ≤ 5) : gI l yX0_tolledInAll cX0_tolledInAll 3 (some .int) 0 0 G [.ref (gAd G 9)] σ τ (kSum (σ 19) N) σ τ := by
  refine gMet_of (by decide) (Nat.le_of_ble_eq_true rfl) ?_
  intro p e s m args below meth c C hr hlk ls hl hW
  have hx := C.1
  have hb := C.2.1
  have hl : lv_has ls 3 [(0, .ref (gAd G 9))] := hl
  refine lv_iconst (v := 0) hx hb dX0_tolledInAll_0 (by decide) ?_
  refine lv_istore_n (lv' := [(1, .int 0), (0, .ref (gAd G 9))]) hx hb dX0_tolledInAll_1 rfl hl (by decide) rfl (fun ls hl => ?_)
  refine lv_iconst (v := 0) hx hb dX0_tolledInAll_2 (by decide) ?_
  refine lv_istore_n (lv' := [(2, .int 0), (1, .int 0), (0, .ref (gAd G 9))]) hx hb dX0_tolledInAll_3 rfl hl (by decide) rfl (fun ls hl => ?_)
  have L4 : ∀ (n : Nat) (k : Nat) (v : Int32) (H : Heap) (locs : List Loc) (ls : Array Slot), n + k = N → v = (kSum (σ 19) k) → gW G s σ τ H locs → lv_has ls 3 [(2, .int (nI k)), (1, .int v), (0, .ref (gAd G 9))] → W p l e (gRm 0 0) s m args below meth c H locs 0 0 (MQ below (gQi G (kSum (σ 19) N) σ τ) args s 0 0 (gA G)) (F0 m 4 ls []) := by
    intro n
    induction n with
    | zero =>
      intro k v H locs ls hm hv hW hl
      refine lv_iload_n hx hb dX0_tolledInAll_4 rfl (lv_at hl 0 rfl) ?_
      refine lv_aload_n hx hb dX0_tolledInAll_5 rfl (lv_at hl 2 rfl) ?_
      refine gf_X0_12 C hW (by decide) rfl dX0_tolledInAll_6 ?_
      refine gf_X0_92 (v := nI N) C hW (by decide) rfl hN dX0_tolledInAll_9 ?_
      refine lv_icmp_ge (tgt := 33) hx hb dX0_tolledInAll_12 (by decide) (fun _ => ?_) (fun zz => absurd (show nI N ≤ nI k from nI_le (by omega) (by omega)) zz)
      refine lv_iload_n hx hb dX0_tolledInAll_33 rfl (lv_at hl 1 rfl) ?_
      exact g_iret C hr hlk hW dX0_tolledInAll_34 (by rw [hv, show k = N by omega]) (rfl) (rfl)
    | succ n ih4 =>
      intro k v H locs ls hm hv hW hl
      refine lv_iload_n hx hb dX0_tolledInAll_4 rfl (lv_at hl 0 rfl) ?_
      refine lv_aload_n hx hb dX0_tolledInAll_5 rfl (lv_at hl 2 rfl) ?_
      refine gf_X0_12 C hW (by decide) rfl dX0_tolledInAll_6 ?_
      refine gf_X0_92 (v := nI N) C hW (by decide) rfl hN dX0_tolledInAll_9 ?_
      refine lv_icmp_ge (tgt := 33) hx hb dX0_tolledInAll_12 (by decide) (fun zz => absurd zz (show ¬ nI N ≤ nI k from nI_ge (by omega) (by omega))) (fun _ => ?_)
      refine lv_iload_n hx hb dX0_tolledInAll_15 rfl (lv_at hl 1 rfl) ?_
      refine lv_aload_n hx hb dX0_tolledInAll_16 rfl (lv_at hl 2 rfl) ?_
      refine gf_X0_21 C hW (by decide) rfl dX0_tolledInAll_17 ?_
      refine gf_X0_95 C hW (by decide) rfl dX0_tolledInAll_20 ?_
      refine lv_iload_n hx hb dX0_tolledInAll_23 rfl (lv_at hl 0 rfl) ?_
      refine g_ald (v := σ 19 k) k C hW (by decide) rfl rfl (show k < 5 by omega) (by decide) rfl dX0_tolledInAll_24 ?_
      refine lv_iadd hx hb dX0_tolledInAll_25 ?_
      refine lv_istore_n (lv' := [(1, .int (v + (σ 19 k))), (2, .int (nI k)), (0, .ref (gAd G 9))]) hx hb dX0_tolledInAll_26 rfl hl (by decide) rfl (fun ls hl => ?_)
      refine lv_iinc (v := nI (k + 1)) (lv' := [(2, .int (nI (k + 1))), (1, .int (v + (σ 19 k))), (0, .ref (gAd G 9))]) hx hb dX0_tolledInAll_27 hl (k := 1) rfl (nI_1 _) (by decide) rfl (fun ls hl => ?_)
      refine lv_goto (tgt := 4) hx hb dX0_tolledInAll_30 (by decide) ?_
      exact ih4 (k + 1) (v + (σ 19 k)) _ _ _ (by omega) (by rw [kSum, hv]) hW (lv_sub hl [0, 1, 2] rfl)
  exact L4 N 0 0 _ _ _ (by omega) (by first | rfl | simp [bI]) hW (lv_sub hl [0, 1, 2] rfl)
set_option maxHeartbeats 4000000 in
set_option maxRecDepth 100000 in
theorem k_worst (l : Launch) (G : gG) (σ : gSt) (τ : Nat → Int64) (N : Nat) (hN : σ 10 1 = nI N) (hN5 : N ≤ 5) : gI l yX0_worst cX0_worst 4 (some .int) 0 0 G [.ref (gAd G 9)] σ τ ((kWorst (σ 19) N).2) σ τ := by
  refine gMet_of (by decide) (Nat.le_of_ble_eq_true rfl) ?_
  intro p e s m args below meth c C hr hlk ls hl hW
  have hx := C.1
  have hb := C.2.1
  have hl : lv_has ls 4 [(0, .ref (gAd G 9))] := hl
  refine lv_iconst (v := 0) hx hb dX0_worst_0 (by decide) ?_
  refine lv_istore_n (lv' := [(1, .int 0), (0, .ref (gAd G 9))]) hx hb dX0_worst_1 rfl hl (by decide) rfl (fun ls hl => ?_)
  refine lv_bipush (v := (-9)) hx hb dX0_worst_2 (by decide) ?_
  refine lv_istore_n (lv' := [(2, .int (-9)), (1, .int 0), (0, .ref (gAd G 9))]) hx hb dX0_worst_4 rfl hl (by decide) rfl (fun ls hl => ?_)
  refine lv_iconst (v := 0) hx hb dX0_worst_5 (by decide) ?_
  refine lv_istore_n (lv' := [(3, .int 0), (2, .int (-9)), (1, .int 0), (0, .ref (gAd G 9))]) hx hb dX0_worst_6 rfl hl (by decide) rfl (fun ls hl => ?_)
  have L7 : ∀ (n : Nat) (k : Nat) (v : Int32) (w : Int32) (H : Heap) (locs : List Loc) (ls : Array Slot), n + k = N → v = ((kWorst (σ 19) k).1) → w = ((kWorst (σ 19) k).2) → gW G s σ τ H locs → lv_has ls 4 [(3, .int (nI k)), (2, .int w), (1, .int v), (0, .ref (gAd G 9))] → W p l e (gRm 0 0) s m args below meth c H locs 0 0 (MQ below (gQi G ((kWorst (σ 19) N).2) σ τ) args s 0 0 (gA G)) (F0 m 7 ls []) := by
    intro n
    induction n with
    | zero =>
      intro k v w H locs ls hm hv hw hW hl
      refine lv_iload_n hx hb dX0_worst_7 rfl (lv_at hl 0 rfl) ?_
      refine lv_aload_n hx hb dX0_worst_8 rfl (lv_at hl 3 rfl) ?_
      refine gf_X0_12 C hW (by decide) rfl dX0_worst_9 ?_
      refine gf_X0_92 (v := nI N) C hW (by decide) rfl hN dX0_worst_12 ?_
      refine lv_icmp_ge (tgt := 49) hx hb dX0_worst_15 (by decide) (fun _ => ?_) (fun zz => absurd (show nI N ≤ nI k from nI_le (by omega) (by omega)) zz)
      refine lv_iload_n hx hb dX0_worst_49 rfl (lv_at hl 1 rfl) ?_
      exact g_iret C hr hlk hW dX0_worst_50 (by rw [hw, show k = N by omega]) (rfl) (rfl)
    | succ n ih7 =>
      intro k v w H locs ls hm hv hw hW hl
      refine lv_iload_n hx hb dX0_worst_7 rfl (lv_at hl 0 rfl) ?_
      refine lv_aload_n hx hb dX0_worst_8 rfl (lv_at hl 3 rfl) ?_
      refine gf_X0_12 C hW (by decide) rfl dX0_worst_9 ?_
      refine gf_X0_92 (v := nI N) C hW (by decide) rfl hN dX0_worst_12 ?_
      refine lv_icmp_ge (tgt := 49) hx hb dX0_worst_15 (by decide) (fun zz => absurd zz (show ¬ nI N ≤ nI k from nI_ge (by omega) (by omega))) (fun _ => ?_)
      refine lv_aload_n hx hb dX0_worst_18 rfl (lv_at hl 3 rfl) ?_
      refine gf_X0_21 C hW (by decide) rfl dX0_worst_19 ?_
      refine gf_X0_95 C hW (by decide) rfl dX0_worst_22 ?_
      refine lv_iload_n hx hb dX0_worst_25 rfl (lv_at hl 0 rfl) ?_
      refine g_ald (v := σ 19 k) k C hW (by decide) rfl rfl (show k < 5 by omega) (by decide) rfl dX0_worst_26 ?_
      refine lv_iload_n hx hb dX0_worst_27 rfl (lv_at hl 2 rfl) ?_
      refine lv_icmp_le (tgt := 43) hx hb dX0_worst_28 (by decide) (fun c_1 => ?_) (fun c_1 => ?_)
      · skip
        refine lv_iinc (v := nI (k + 1)) (lv' := [(3, .int (nI (k + 1))), (2, .int w), (1, .int v), (0, .ref (gAd G 9))]) hx hb dX0_worst_43 hl (k := 0) rfl (nI_1 _) (by decide) rfl (fun ls hl => ?_)
        refine lv_goto (tgt := 7) hx hb dX0_worst_46 (by decide) ?_
        exact ih7 (k + 1) v w _ _ _ (by omega) (by rw [kWorst, if_pos (by rw [← hv]; exact c_1), hv]) (by rw [kWorst, if_pos (by rw [← hv]; exact c_1), hw]) hW (lv_sub hl [0, 1, 2, 3] rfl)
      · skip
        refine lv_aload_n hx hb dX0_worst_31 rfl (lv_at hl 3 rfl) ?_
        refine gf_X0_21 C hW (by decide) rfl dX0_worst_32 ?_
        refine gf_X0_95 C hW (by decide) rfl dX0_worst_35 ?_
        refine lv_iload_n hx hb dX0_worst_38 rfl (lv_at hl 0 rfl) ?_
        refine g_ald (v := σ 19 k) k C hW (by decide) rfl rfl (show k < 5 by omega) (by decide) rfl dX0_worst_39 ?_
        refine lv_istore_n (lv' := [(1, .int (σ 19 k)), (3, .int (nI k)), (2, .int w), (0, .ref (gAd G 9))]) hx hb dX0_worst_40 rfl hl (by decide) rfl (fun ls hl => ?_)
        refine lv_iload_n hx hb dX0_worst_41 rfl (lv_at hl 1 rfl) ?_
        refine lv_istore_n (lv' := [(2, .int (nI k)), (1, .int (σ 19 k)), (3, .int (nI k)), (0, .ref (gAd G 9))]) hx hb dX0_worst_42 rfl hl (by decide) rfl (fun ls hl => ?_)
        refine lv_iinc (v := nI (k + 1)) (lv' := [(3, .int (nI (k + 1))), (2, .int (nI k)), (1, .int (σ 19 k)), (0, .ref (gAd G 9))]) hx hb dX0_worst_43 hl (k := 2) rfl (nI_1 _) (by decide) rfl (fun ls hl => ?_)
        refine lv_goto (tgt := 7) hx hb dX0_worst_46 (by decide) ?_
        exact ih7 (k + 1) (σ 19 k) (nI k) _ _ _ (by omega) (by rw [kWorst, if_neg (by rw [← hv]; exact c_1)]) (by rw [kWorst, if_neg (by rw [← hv]; exact c_1)]) hW (lv_sub hl [0, 1, 2, 3] rfl)
  exact L7 N 0 0 (-9) _ _ _ (by omega) (by first | rfl | simp [bI]) (by first | rfl | simp [bI]) hW (lv_sub hl [0, 1, 2, 3] rfl)
set_option maxHeartbeats 4000000 in
set_option maxRecDepth 100000 in
theorem k_nextRung (l : Launch) (G : gG) (σ : gSt) (τ : Nat → Int64) (D : Nat) (hD : σ 10 2 = nI D) (hD8 : D ≤ 8) (mi : Nat) (hmi : σ 16 0 = nI mi) (hmi2 : mi ≤ 240) (how : ∀ d, d < D → σ 20 d = nI (σ 20 d).toNatClampNeg ∧ (σ 20 d).toNatClampNeg < 5) : gI l yX0_nextRung cX0_nextRung 2 (some .int) 3 66 G [.ref (gAd G 9)] σ τ (rFirst (fun m => !decide (sDR σ (nI m) D = 0)) (240 - mi) mi) σ τ := by
  refine gMet_of (by decide) (Nat.le_of_ble_eq_true rfl) ?_
  intro p e s m args below meth c C hr hlk ls hl hW
  have hx := C.1
  have hb := C.2.1
  have hl : lv_has ls 2 [(0, .ref (gAd G 9))] := hl
  refine lv_aload_n hx hb dX0_nextRung_0 rfl (lv_at hl 0 rfl) ?_
  refine gf_X0_21 C hW (by decide) rfl dX0_nextRung_1 ?_
  refine gf_X0_76 (v := nI mi) C hW (by decide) rfl hmi dX0_nextRung_4 ?_
  refine lv_istore_n (lv' := [(1, .int (nI mi)), (0, .ref (gAd G 9))]) hx hb dX0_nextRung_7 rfl hl (by decide) rfl (fun ls hl => ?_)
  have L8 : ∀ (n : Nat) (m_ : Nat) (H : Heap) (locs : List Loc) (ls : Array Slot), n + m_ = 240 → (rFirst (fun m => !decide (sDR σ (nI m) D = 0)) n m_ = rFirst (fun m => !decide (sDR σ (nI m) D = 0)) (240 - mi) mi) → gW G s σ τ H locs → lv_has ls 2 [(1, .int (nI m_)), (0, .ref (gAd G 9))] → W p l e (gRm 3 66) s m args below meth c H locs 0 0 (MQ below (gQi G (rFirst (fun m => !decide (sDR σ (nI m) D = 0)) (240 - mi) mi) σ τ) args s 0 0 (gA G)) (F0 m 8 ls []) := by
    intro n
    induction n with
    | zero =>
      intro m_ H locs ls hm hq hW hl
      refine lv_iload_n hx hb dX0_nextRung_8 rfl (lv_at hl 0 rfl) ?_
      refine lv_sipush (v := 240) hx hb dX0_nextRung_9 (by decide) ?_
      refine lv_icmp_ge (tgt := 31) hx hb dX0_nextRung_12 (by decide) (fun _ => ?_) (fun zz => absurd (show nI 240 ≤ nI m_ from nI_le (by omega) (by omega)) zz)
      refine lv_bipush (v := (-9)) hx hb dX0_nextRung_31 (by decide) ?_
      exact g_iret C hr hlk hW dX0_nextRung_33 (by rw [← hq]; rfl) (rfl) (rfl)
    | succ n ih8 =>
      intro m_ H locs ls hm hq hW hl
      refine lv_iload_n hx hb dX0_nextRung_8 rfl (lv_at hl 0 rfl) ?_
      refine lv_sipush (v := 240) hx hb dX0_nextRung_9 (by decide) ?_
      refine lv_icmp_ge (tgt := 31) hx hb dX0_nextRung_12 (by decide) (fun zz => absurd zz (show ¬ nI 240 ≤ nI m_ from nI_ge (by omega) (by omega))) (fun _ => ?_)
      refine lv_aload_n hx hb dX0_nextRung_15 rfl (lv_at hl 1 rfl) ?_
      refine lv_iload_n hx hb dX0_nextRung_16 rfl (lv_at hl 0 rfl) ?_
      refine g_callvI (r := sDR σ (nI m_) D) (σ' := σ) (rest := []) (As := [.int (nI m_)]) C hW kv_X0_82 9 (by decide) (gL_0 rfl) rfl (k_dutiesRung l G σ τ (nI m_) D hD hD8 how) ⟨Nat.le_of_ble_eq_true rfl, Nat.le_of_ble_eq_true rfl⟩ ⟨Nat.le_refl _, Nat.le_refl _⟩ rfl hl.1 rfl (Nat.le_of_ble_eq_true rfl) dX0_nextRung_17 (fun H locs hW => ?_)
      refine lv_if_eq (tgt := 25) hx hb dX0_nextRung_20 (by decide) (fun c_1 => ?_) (fun c_1 => ?_)
      · skip
        refine lv_iinc (v := nI (m_ + 1)) (lv' := [(1, .int (nI (m_ + 1))), (0, .ref (gAd G 9))]) hx hb dX0_nextRung_25 hl (k := 0) rfl (nI_1 _) (by decide) rfl (fun ls hl => ?_)
        refine lv_goto (tgt := 8) hx hb dX0_nextRung_28 (by decide) ?_
        exact ih8 (m_ + 1) _ _ _ (by omega) (by rw [← hq, rFirst, if_neg (by simp [c_1])]) hW (lv_sub hl [0, 1] rfl)
      · skip
        refine lv_iload_n hx hb dX0_nextRung_23 rfl (lv_at hl 0 rfl) ?_
        exact g_iret C hr hlk hW dX0_nextRung_24 (by rw [← hq, rFirst, if_pos (by simp [c_1])]) (rfl) (rfl)
  exact L8 (240 - mi) mi _ _ _ (by omega) rfl hW (lv_sub hl [0, 1] rfl)
set_option maxHeartbeats 4000000 in
set_option maxRecDepth 100000 in
theorem k_chordMinutes (l : Launch) (G : gG) (σ : gSt) (τ : Nat → Int64) (a0 : Int32) (D : Nat) (hD : σ 10 2 = nI D) (hD8 : D ≤ 8) (mi : Nat) (hmi : σ 16 0 = nI mi) (hmi2 : mi ≤ 240) (how : ∀ d, d < D → σ 20 d = nI (σ 20 d).toNatClampNeg ∧ (σ 20 d).toNatClampNeg < 5) : gI l yX0_chordMinutes cX0_chordMinutes 4 (some .int) 4 87 G [.ref (gAd G 9), .int a0] σ τ (rCount (fun m => decide (sRung σ (nI m) D = a0)) mi (240 - mi)) σ τ := by
  refine gMet_of (by decide) (Nat.le_of_ble_eq_true rfl) ?_
  intro p e s m args below meth c C hr hlk ls hl hW
  have hx := C.1
  have hb := C.2.1
  have hl : lv_has ls 4 [(0, .ref (gAd G 9)), (1, .int a0)] := hl
  refine lv_iconst (v := 0) hx hb dX0_chordMinutes_0 (by decide) ?_
  refine lv_istore_n (lv' := [(2, .int 0), (0, .ref (gAd G 9)), (1, .int a0)]) hx hb dX0_chordMinutes_1 rfl hl (by decide) rfl (fun ls hl => ?_)
  refine lv_aload_n hx hb dX0_chordMinutes_2 rfl (lv_at hl 1 rfl) ?_
  refine gf_X0_21 C hW (by decide) rfl dX0_chordMinutes_3 ?_
  refine gf_X0_76 (v := nI mi) C hW (by decide) rfl hmi dX0_chordMinutes_6 ?_
  refine lv_istore_n (lv' := [(3, .int (nI mi)), (2, .int 0), (0, .ref (gAd G 9)), (1, .int a0)]) hx hb dX0_chordMinutes_9 rfl hl (by decide) rfl (fun ls hl => ?_)
  have L10 : ∀ (n : Nat) (i : Nat) (v : Int32) (H : Heap) (locs : List Loc) (ls : Array Slot), n + (mi + i) = 240 → v = (rCount (fun m => decide (sRung σ (nI m) D = a0)) mi i) → gW G s σ τ H locs → lv_has ls 4 [(3, .int (nI (mi + i))), (2, .int v), (0, .ref (gAd G 9)), (1, .int a0)] → W p l e (gRm 4 87) s m args below meth c H locs 0 0 (MQ below (gQi G (rCount (fun m => decide (sRung σ (nI m) D = a0)) mi (240 - mi)) σ τ) args s 0 0 (gA G)) (F0 m 10 ls []) := by
    intro n
    induction n with
    | zero =>
      intro i v H locs ls hm hv hW hl
      refine lv_iload_n hx hb dX0_chordMinutes_10 rfl (lv_at hl 0 rfl) ?_
      refine lv_sipush (v := 240) hx hb dX0_chordMinutes_11 (by decide) ?_
      refine lv_icmp_ge (tgt := 35) hx hb dX0_chordMinutes_14 (by decide) (fun _ => ?_) (fun zz => absurd (show nI 240 ≤ nI (mi + i) from nI_le (by omega) (by omega)) zz)
      refine lv_iload_n hx hb dX0_chordMinutes_35 rfl (lv_at hl 1 rfl) ?_
      exact g_iret C hr hlk hW dX0_chordMinutes_36 (by rw [hv, show i = 240 - mi by omega]) (rfl) (rfl)
    | succ n ih10 =>
      intro i v H locs ls hm hv hW hl
      refine lv_iload_n hx hb dX0_chordMinutes_10 rfl (lv_at hl 0 rfl) ?_
      refine lv_sipush (v := 240) hx hb dX0_chordMinutes_11 (by decide) ?_
      refine lv_icmp_ge (tgt := 35) hx hb dX0_chordMinutes_14 (by decide) (fun zz => absurd zz (show ¬ nI 240 ≤ nI (mi + i) from nI_ge (by omega) (by omega))) (fun _ => ?_)
      refine lv_aload_n hx hb dX0_chordMinutes_17 rfl (lv_at hl 2 rfl) ?_
      refine lv_iload_n hx hb dX0_chordMinutes_18 rfl (lv_at hl 0 rfl) ?_
      refine g_callvI (r := sRung σ (nI (mi + i)) D) (σ' := σ) (rest := []) (As := [.int (nI (mi + i))]) C hW kv_X0_89 9 (by decide) (gL_0 rfl) rfl (k_rung l G σ τ (nI (mi + i)) D hD hD8 how) ⟨Nat.le_of_ble_eq_true rfl, Nat.le_of_ble_eq_true rfl⟩ ⟨Nat.le_refl _, Nat.le_refl _⟩ rfl hl.1 rfl (Nat.le_of_ble_eq_true rfl) dX0_chordMinutes_19 (fun H locs hW => ?_)
      refine lv_iload_n hx hb dX0_chordMinutes_22 rfl (lv_at hl 3 rfl) ?_
      refine lv_icmp_ne (tgt := 29) hx hb dX0_chordMinutes_23 (by decide) (fun c_1 => ?_) (fun c_1 => ?_)
      · skip
        refine lv_iinc (v := nI (mi + i + 1)) (lv' := [(3, .int (nI (mi + i + 1))), (2, .int v), (0, .ref (gAd G 9)), (1, .int a0)]) hx hb dX0_chordMinutes_29 hl (k := 0) rfl (nI_1 _) (by decide) rfl (fun ls hl => ?_)
        refine lv_goto (tgt := 10) hx hb dX0_chordMinutes_32 (by decide) ?_
        exact ih10 (i + 1) v _ _ _ (by omega) (by rw [rCount, ← hv, if_neg (dneg c_1)]) hW (lv_sub hl [0, 1, 2, 3] rfl)
      · skip
        refine lv_iinc (v := v + 1) (lv' := [(2, .int (v + 1)), (3, .int (nI (mi + i))), (0, .ref (gAd G 9)), (1, .int a0)]) hx hb dX0_chordMinutes_26 hl (k := 1) rfl (rfl) (by decide) rfl (fun ls hl => ?_)
        refine lv_iinc (v := nI (mi + i + 1)) (lv' := [(3, .int (nI (mi + i + 1))), (2, .int (v + 1)), (0, .ref (gAd G 9)), (1, .int a0)]) hx hb dX0_chordMinutes_29 hl (k := 1) rfl (nI_1 _) (by decide) rfl (fun ls hl => ?_)
        refine lv_goto (tgt := 10) hx hb dX0_chordMinutes_32 (by decide) ?_
        exact ih10 (i + 1) (v + 1) _ _ _ (by omega) (by rw [rCount, ← hv, if_pos (dpos c_1)]) hW (lv_sub hl [0, 1, 2, 3] rfl)
  exact L10 (240 - mi) 0 0 _ _ _ (by omega) (by first | rfl | simp [bI]) hW (lv_sub hl [0, 1, 2, 3] rfl)
set_option maxHeartbeats 4000000 in
set_option maxRecDepth 100000 in
theorem k_chordFirst (l : Launch) (G : gG) (σ : gSt) (τ : Nat → Int64) (a0 : Int32) (D : Nat) (hD : σ 10 2 = nI D) (hD8 : D ≤ 8) (mi : Nat) (hmi : σ 16 0 = nI mi) (hmi2 : mi ≤ 240) (how : ∀ d, d < D → σ 20 d = nI (σ 20 d).toNatClampNeg ∧ (σ 20 d).toNatClampNeg < 5) : gI l yX0_chordFirst cX0_chordFirst 3 (some .int) 4 87 G [.ref (gAd G 9), .int a0] σ τ (rFirst (fun m => decide (sRung σ (nI m) D = a0)) (240 - mi) mi) σ τ := by
  refine gMet_of (by decide) (Nat.le_of_ble_eq_true rfl) ?_
  intro p e s m args below meth c C hr hlk ls hl hW
  have hx := C.1
  have hb := C.2.1
  have hl : lv_has ls 3 [(0, .ref (gAd G 9)), (1, .int a0)] := hl
  refine lv_aload_n hx hb dX0_chordFirst_0 rfl (lv_at hl 0 rfl) ?_
  refine gf_X0_21 C hW (by decide) rfl dX0_chordFirst_1 ?_
  refine gf_X0_76 (v := nI mi) C hW (by decide) rfl hmi dX0_chordFirst_4 ?_
  refine lv_istore_n (lv' := [(2, .int (nI mi)), (0, .ref (gAd G 9)), (1, .int a0)]) hx hb dX0_chordFirst_7 rfl hl (by decide) rfl (fun ls hl => ?_)
  have L8 : ∀ (n : Nat) (m_ : Nat) (H : Heap) (locs : List Loc) (ls : Array Slot), n + m_ = 240 → (rFirst (fun m => decide (sRung σ (nI m) D = a0)) n m_ = rFirst (fun m => decide (sRung σ (nI m) D = a0)) (240 - mi) mi) → gW G s σ τ H locs → lv_has ls 3 [(2, .int (nI m_)), (0, .ref (gAd G 9)), (1, .int a0)] → W p l e (gRm 4 87) s m args below meth c H locs 0 0 (MQ below (gQi G (rFirst (fun m => decide (sRung σ (nI m) D = a0)) (240 - mi) mi) σ τ) args s 0 0 (gA G)) (F0 m 8 ls []) := by
    intro n
    induction n with
    | zero =>
      intro m_ H locs ls hm hq hW hl
      refine lv_iload_n hx hb dX0_chordFirst_8 rfl (lv_at hl 0 rfl) ?_
      refine lv_sipush (v := 240) hx hb dX0_chordFirst_9 (by decide) ?_
      refine lv_icmp_ge (tgt := 32) hx hb dX0_chordFirst_12 (by decide) (fun _ => ?_) (fun zz => absurd (show nI 240 ≤ nI m_ from nI_le (by omega) (by omega)) zz)
      refine lv_bipush (v := (-9)) hx hb dX0_chordFirst_32 (by decide) ?_
      exact g_iret C hr hlk hW dX0_chordFirst_34 (by rw [← hq]; rfl) (rfl) (rfl)
    | succ n ih8 =>
      intro m_ H locs ls hm hq hW hl
      refine lv_iload_n hx hb dX0_chordFirst_8 rfl (lv_at hl 0 rfl) ?_
      refine lv_sipush (v := 240) hx hb dX0_chordFirst_9 (by decide) ?_
      refine lv_icmp_ge (tgt := 32) hx hb dX0_chordFirst_12 (by decide) (fun zz => absurd zz (show ¬ nI 240 ≤ nI m_ from nI_ge (by omega) (by omega))) (fun _ => ?_)
      refine lv_aload_n hx hb dX0_chordFirst_15 rfl (lv_at hl 1 rfl) ?_
      refine lv_iload_n hx hb dX0_chordFirst_16 rfl (lv_at hl 0 rfl) ?_
      refine g_callvI (r := sRung σ (nI m_) D) (σ' := σ) (rest := []) (As := [.int (nI m_)]) C hW kv_X0_89 9 (by decide) (gL_0 rfl) rfl (k_rung l G σ τ (nI m_) D hD hD8 how) ⟨Nat.le_of_ble_eq_true rfl, Nat.le_of_ble_eq_true rfl⟩ ⟨Nat.le_refl _, Nat.le_refl _⟩ rfl hl.1 rfl (Nat.le_of_ble_eq_true rfl) dX0_chordFirst_17 (fun H locs hW => ?_)
      refine lv_iload_n hx hb dX0_chordFirst_20 rfl (lv_at hl 2 rfl) ?_
      refine lv_icmp_ne (tgt := 26) hx hb dX0_chordFirst_21 (by decide) (fun c_1 => ?_) (fun c_1 => ?_)
      · skip
        refine lv_iinc (v := nI (m_ + 1)) (lv' := [(2, .int (nI (m_ + 1))), (0, .ref (gAd G 9)), (1, .int a0)]) hx hb dX0_chordFirst_26 hl (k := 0) rfl (nI_1 _) (by decide) rfl (fun ls hl => ?_)
        refine lv_goto (tgt := 8) hx hb dX0_chordFirst_29 (by decide) ?_
        exact ih8 (m_ + 1) _ _ _ (by omega) (by rw [← hq, rFirst, if_neg (dneg c_1)]) hW (lv_sub hl [0, 1, 2] rfl)
      · skip
        refine lv_iload_n hx hb dX0_chordFirst_24 rfl (lv_at hl 0 rfl) ?_
        exact g_iret C hr hlk hW dX0_chordFirst_25 (by rw [← hq, rFirst, if_pos (dpos c_1)]) (rfl) (rfl)
  exact L8 (240 - mi) mi _ _ _ (by omega) rfl hW (lv_sub hl [0, 1, 2] rfl)
set_option maxHeartbeats 4000000 in
set_option maxRecDepth 100000 in
theorem k_firstUnlike (l : Launch) (G : gG) (σ : gSt) (τ : Nat → Int64) (a0 a1 a2 : Int32) (D : Nat) (hD : σ 10 2 = nI D) (hD8 : D ≤ 8) : gI l yX0_firstUnlike cX0_firstUnlike 5 (some .int) 4 90 G [.ref (gAd G 9), .int a0, .int a1, .int a2] σ τ (rFirst (fun m => !(sRungAt σ a1 a0 (nI m) D == sRungAt σ a2 a0 (nI m) D)) 240 0) σ τ := by
  refine gMet_of (by decide) (Nat.le_of_ble_eq_true rfl) ?_
  intro p e s m args below meth c C hr hlk ls hl hW
  have hx := C.1
  have hb := C.2.1
  have hl : lv_has ls 5 [(0, .ref (gAd G 9)), (1, .int a0), (2, .int a1), (3, .int a2)] := hl
  refine lv_iconst (v := 0) hx hb dX0_firstUnlike_0 (by decide) ?_
  refine lv_istore (lv' := [(4, .int 0), (0, .ref (gAd G 9)), (1, .int a0), (2, .int a1), (3, .int a2)]) hx hb dX0_firstUnlike_1 hl (by decide) rfl (fun ls hl => ?_)
  have L3 : ∀ (n : Nat) (m_ : Nat) (H : Heap) (locs : List Loc) (ls : Array Slot), n + m_ = 240 → (rFirst (fun m => !(sRungAt σ a1 a0 (nI m) D == sRungAt σ a2 a0 (nI m) D)) n m_ = rFirst (fun m => !(sRungAt σ a1 a0 (nI m) D == sRungAt σ a2 a0 (nI m) D)) 240 0) → gW G s σ τ H locs → lv_has ls 5 [(4, .int (nI m_)), (0, .ref (gAd G 9)), (1, .int a0), (2, .int a1), (3, .int a2)] → W p l e (gRm 4 90) s m args below meth c H locs 0 0 (MQ below (gQi G (rFirst (fun m => !(sRungAt σ a1 a0 (nI m) D == sRungAt σ a2 a0 (nI m) D)) 240 0) σ τ) args s 0 0 (gA G)) (F0 m 3 ls []) := by
    intro n
    induction n with
    | zero =>
      intro m_ H locs ls hm hq hW hl
      refine lv_iload hx hb dX0_firstUnlike_3 (lv_at hl 0 rfl) ?_
      refine lv_sipush (v := 240) hx hb dX0_firstUnlike_5 (by decide) ?_
      refine lv_icmp_ge (tgt := 39) hx hb dX0_firstUnlike_8 (by decide) (fun _ => ?_) (fun zz => absurd (show nI 240 ≤ nI m_ from nI_le (by omega) (by omega)) zz)
      refine lv_bipush (v := (-9)) hx hb dX0_firstUnlike_39 (by decide) ?_
      exact g_iret C hr hlk hW dX0_firstUnlike_41 (by rw [← hq]; rfl) (rfl) (rfl)
    | succ n ih3 =>
      intro m_ H locs ls hm hq hW hl
      refine lv_iload hx hb dX0_firstUnlike_3 (lv_at hl 0 rfl) ?_
      refine lv_sipush (v := 240) hx hb dX0_firstUnlike_5 (by decide) ?_
      refine lv_icmp_ge (tgt := 39) hx hb dX0_firstUnlike_8 (by decide) (fun zz => absurd zz (show ¬ nI 240 ≤ nI m_ from nI_ge (by omega) (by omega))) (fun _ => ?_)
      refine lv_aload_n hx hb dX0_firstUnlike_11 rfl (lv_at hl 1 rfl) ?_
      refine lv_iload_n hx hb dX0_firstUnlike_12 rfl (lv_at hl 3 rfl) ?_
      refine lv_iload_n hx hb dX0_firstUnlike_13 rfl (lv_at hl 2 rfl) ?_
      refine lv_iload hx hb dX0_firstUnlike_14 (lv_at hl 0 rfl) ?_
      refine g_callvI (r := bI (sRungAt σ a1 a0 (nI m_) D)) (σ' := σ) (rest := []) (As := [.int a1, .int a0, .int (nI m_)]) C hW kv_X0_106 9 (by decide) (gL_0 rfl) rfl (k_isRungAt l G σ τ a1 a0 (nI m_) D hD hD8) ⟨Nat.le_of_ble_eq_true rfl, Nat.le_of_ble_eq_true rfl⟩ ⟨Nat.le_refl _, Nat.le_refl _⟩ rfl hl.1 rfl (Nat.le_of_ble_eq_true rfl) dX0_firstUnlike_16 (fun H locs hW => ?_)
      refine lv_aload_n hx hb dX0_firstUnlike_19 rfl (lv_at hl 1 rfl) ?_
      refine lv_iload_n hx hb dX0_firstUnlike_20 rfl (lv_at hl 4 rfl) ?_
      refine lv_iload_n hx hb dX0_firstUnlike_21 rfl (lv_at hl 2 rfl) ?_
      refine lv_iload hx hb dX0_firstUnlike_22 (lv_at hl 0 rfl) ?_
      refine g_callvI (r := bI (sRungAt σ a2 a0 (nI m_) D)) (σ' := σ) (rest := [.int (bI (sRungAt σ a1 a0 (nI m_) D))]) (As := [.int a2, .int a0, .int (nI m_)]) C hW kv_X0_106 9 (by decide) (gL_0 rfl) rfl (k_isRungAt l G σ τ a2 a0 (nI m_) D hD hD8) ⟨Nat.le_of_ble_eq_true rfl, Nat.le_of_ble_eq_true rfl⟩ ⟨Nat.le_refl _, Nat.le_refl _⟩ rfl hl.1 rfl (Nat.le_of_ble_eq_true rfl) dX0_firstUnlike_24 (fun H locs hW => ?_)
      refine lv_icmp_eq (tgt := 33) hx hb dX0_firstUnlike_27 (by decide) (fun c_1 => ?_) (fun c_1 => ?_)
      · skip
        refine lv_iinc (v := nI (m_ + 1)) (lv' := [(4, .int (nI (m_ + 1))), (0, .ref (gAd G 9)), (1, .int a0), (2, .int a1), (3, .int a2)]) hx hb dX0_firstUnlike_33 hl (k := 0) rfl (nI_1 _) (by decide) rfl (fun ls hl => ?_)
        refine lv_goto (tgt := 3) hx hb dX0_firstUnlike_36 (by decide) ?_
        exact ih3 (m_ + 1) _ _ _ (by omega) (by rw [← hq, rFirst, if_neg (by simp [bI_inj.mp c_1])]) hW (lv_sub hl [0, 1, 2, 3, 4] rfl)
      · skip
        refine lv_iload hx hb dX0_firstUnlike_30 (lv_at hl 0 rfl) ?_
        exact g_iret C hr hlk hW dX0_firstUnlike_32 (by rw [← hq, rFirst, if_pos (by simpa using fun z => c_1 (bI_inj.mpr z))]) (rfl) (rfl)
  exact L3 240 0 _ _ _ (by omega) rfl hW (lv_sub hl [0, 1, 2, 3, 4] rfl)
set_option maxHeartbeats 4000000 in
set_option maxRecDepth 100000 in
theorem k_missedAtHome (l : Launch) (G : gG) (σ : gSt) (τ : Nat → Int64) (a0 a1 : Int32) (k : Nat) (hk : a0 = nI k) (hk5 : k < 5) (D : Nat) (hD : σ 10 2 = nI D) (hD8 : D ≤ 8) : gI l yX0_missedAtHome cX0_missedAtHome 5 (some .int) 2 43 G [.ref (gAd G 9), .int a0, .int a1] σ τ (nI (sMiss σ a0 a1 (σ 11 k) D)) σ τ := by
  refine gMet_of (by decide) (Nat.le_of_ble_eq_true rfl) ?_
  intro p e s m args below meth c C hr hlk ls hl hW
  have hx := C.1
  have hb := C.2.1
  have hl : lv_has ls 5 [(0, .ref (gAd G 9)), (1, .int a0), (2, .int a1)] := hl
  refine lv_iconst (v := 0) hx hb dX0_missedAtHome_0 (by decide) ?_
  refine lv_istore_n (lv' := [(3, .int 0), (0, .ref (gAd G 9)), (1, .int a0), (2, .int a1)]) hx hb dX0_missedAtHome_1 rfl hl (by decide) rfl (fun ls hl => ?_)
  refine lv_iconst (v := 0) hx hb dX0_missedAtHome_2 (by decide) ?_
  refine lv_istore (lv' := [(4, .int 0), (3, .int 0), (0, .ref (gAd G 9)), (1, .int a0), (2, .int a1)]) hx hb dX0_missedAtHome_3 hl (by decide) rfl (fun ls hl => ?_)
  have L5 : ∀ (n : Nat) (d : Nat) (v : Int32) (H : Heap) (locs : List Loc) (ls : Array Slot), n + d = D → v = (nI (sMiss σ a0 a1 (σ 11 k) d)) → gW G s σ τ H locs → lv_has ls 5 [(4, .int (nI d)), (3, .int v), (0, .ref (gAd G 9)), (1, .int a0), (2, .int a1)] → W p l e (gRm 2 43) s m args below meth c H locs 0 0 (MQ below (gQi G (nI (sMiss σ a0 a1 (σ 11 k) D)) σ τ) args s 0 0 (gA G)) (F0 m 5 ls []) := by
    intro n
    induction n with
    | zero =>
      intro d v H locs ls hm hv hW hl
      refine lv_iload hx hb dX0_missedAtHome_5 (lv_at hl 0 rfl) ?_
      refine lv_aload_n hx hb dX0_missedAtHome_7 rfl (lv_at hl 2 rfl) ?_
      refine gf_X0_12 C hW (by decide) rfl dX0_missedAtHome_8 ?_
      refine gf_X0_55 (v := nI D) C hW (by decide) rfl hD dX0_missedAtHome_11 ?_
      refine lv_icmp_ge (tgt := 72) hx hb dX0_missedAtHome_14 (by decide) (fun _ => ?_) (fun zz => absurd (show nI D ≤ nI d from nI_le (by omega) (by omega)) zz)
      refine lv_iload_n hx hb dX0_missedAtHome_72 rfl (lv_at hl 1 rfl) ?_
      exact g_iret C hr hlk hW dX0_missedAtHome_73 (by rw [hv, show d = D by omega]) (rfl) (rfl)
    | succ n ih5 =>
      intro d v H locs ls hm hv hW hl
      refine lv_iload hx hb dX0_missedAtHome_5 (lv_at hl 0 rfl) ?_
      refine lv_aload_n hx hb dX0_missedAtHome_7 rfl (lv_at hl 2 rfl) ?_
      refine gf_X0_12 C hW (by decide) rfl dX0_missedAtHome_8 ?_
      refine gf_X0_55 (v := nI D) C hW (by decide) rfl hD dX0_missedAtHome_11 ?_
      refine lv_icmp_ge (tgt := 72) hx hb dX0_missedAtHome_14 (by decide) (fun zz => absurd zz (show ¬ nI D ≤ nI d from nI_ge (by omega) (by omega))) (fun _ => ?_)
      refine lv_aload_n hx hb dX0_missedAtHome_17 rfl (lv_at hl 2 rfl) ?_
      refine gf_X0_21 C hW (by decide) rfl dX0_missedAtHome_18 ?_
      refine gf_X0_58 C hW (by decide) rfl dX0_missedAtHome_21 ?_
      refine lv_iload hx hb dX0_missedAtHome_24 (lv_at hl 0 rfl) ?_
      refine g_ald (v := σ 20 d) d C hW (by decide) rfl rfl (show d < 8 by omega) (by decide) rfl dX0_missedAtHome_26 ?_
      refine lv_iload_n hx hb dX0_missedAtHome_27 rfl (lv_at hl 3 rfl) ?_
      refine lv_icmp_ne (tgt := 66) hx hb dX0_missedAtHome_28 (by decide) (fun c_1 => ?_) (fun c_1 => ?_)
      · skip
        refine lv_iinc (v := nI (d + 1)) (lv' := [(4, .int (nI (d + 1))), (3, .int v), (0, .ref (gAd G 9)), (1, .int a0), (2, .int a1)]) hx hb dX0_missedAtHome_66 hl (k := 0) rfl (nI_1 _) (by decide) rfl (fun ls hl => ?_)
        refine lv_goto (tgt := 5) hx hb dX0_missedAtHome_69 (by decide) ?_
        exact ih5 (d + 1) v _ _ _ (by omega) (by rw [hv, show sMiss σ a0 a1 (σ 11 k) (d + 1) = sMiss σ a0 a1 (σ 11 k) d from if_neg (fun q => c_1 q.1)]) hW (lv_sub hl [0, 1, 2, 3, 4] rfl)
      · skip
        refine lv_aload_n hx hb dX0_missedAtHome_31 rfl (lv_at hl 2 rfl) ?_
        refine gf_X0_12 C hW (by decide) rfl dX0_missedAtHome_32 ?_
        refine gf_X0_65 C hW (by decide) rfl dX0_missedAtHome_35 ?_
        refine lv_iload hx hb dX0_missedAtHome_38 (lv_at hl 0 rfl) ?_
        refine g_ald (v := σ 13 d) d C hW (by decide) rfl rfl (show d < 8 by omega) (by decide) rfl dX0_missedAtHome_40 ?_
        refine lv_aload_n hx hb dX0_missedAtHome_41 rfl (lv_at hl 2 rfl) ?_
        refine gf_X0_12 C hW (by decide) rfl dX0_missedAtHome_42 ?_
        refine gf_X0_109 C hW (by decide) rfl dX0_missedAtHome_45 ?_
        refine lv_iload_n hx hb dX0_missedAtHome_48 rfl (lv_at hl 3 rfl) ?_
        refine g_ald (v := σ 11 k) k C hW (by decide) rfl hk (show k < 5 by omega) (by decide) rfl dX0_missedAtHome_49 ?_
        refine lv_icmp_eq (tgt := 66) hx hb dX0_missedAtHome_50 (by decide) (fun c_2 => ?_) (fun c_2 => ?_)
        · skip
          refine lv_iinc (v := nI (d + 1)) (lv' := [(4, .int (nI (d + 1))), (3, .int v), (0, .ref (gAd G 9)), (1, .int a0), (2, .int a1)]) hx hb dX0_missedAtHome_66 hl (k := 0) rfl (nI_1 _) (by decide) rfl (fun ls hl => ?_)
          refine lv_goto (tgt := 5) hx hb dX0_missedAtHome_69 (by decide) ?_
          exact ih5 (d + 1) v _ _ _ (by omega) (by rw [hv, show sMiss σ a0 a1 (σ 11 k) (d + 1) = sMiss σ a0 a1 (σ 11 k) d from if_neg (fun q => q.2.1 c_2)]) hW (lv_sub hl [0, 1, 2, 3, 4] rfl)
        · skip
          refine lv_aload_n hx hb dX0_missedAtHome_53 rfl (lv_at hl 2 rfl) ?_
          refine lv_iload hx hb dX0_missedAtHome_54 (lv_at hl 0 rfl) ?_
          refine lv_iload_n hx hb dX0_missedAtHome_56 rfl (lv_at hl 4 rfl) ?_
          refine g_callvI (r := bI (sDue σ a1 d)) (σ' := σ) (rest := []) (As := [.int (nI d), .int a1]) C hW kv_X0_61 9 (by decide) (gL_0 rfl) rfl (k_isDue l G σ τ (nI d) a1 d rfl (by omega)) ⟨Nat.le_of_ble_eq_true rfl, Nat.le_of_ble_eq_true rfl⟩ ⟨Nat.le_refl _, Nat.le_refl _⟩ rfl hl.1 rfl (Nat.le_of_ble_eq_true rfl) dX0_missedAtHome_57 (fun H locs hW => ?_)
          refine lv_if_eq (tgt := 66) hx hb dX0_missedAtHome_60 (by decide) (fun c_3 => ?_) (fun c_3 => ?_)
          · skip
            replace c_3 : (sDue σ a1 d) = false := bI_eq0.mp c_3
            refine lv_iinc (v := nI (d + 1)) (lv' := [(4, .int (nI (d + 1))), (3, .int v), (0, .ref (gAd G 9)), (1, .int a0), (2, .int a1)]) hx hb dX0_missedAtHome_66 hl (k := 0) rfl (nI_1 _) (by decide) rfl (fun ls hl => ?_)
            refine lv_goto (tgt := 5) hx hb dX0_missedAtHome_69 (by decide) ?_
            exact ih5 (d + 1) v _ _ _ (by omega) (by rw [hv, show sMiss σ a0 a1 (σ 11 k) (d + 1) = sMiss σ a0 a1 (σ 11 k) d from if_neg (fun q => bneg c_3 q.2.2)]) hW (lv_sub hl [0, 1, 2, 3, 4] rfl)
          · skip
            replace c_3 : (sDue σ a1 d) = true := bI_ne0.mp c_3
            refine lv_iinc (v := v + 1) (lv' := [(3, .int (v + 1)), (4, .int (nI d)), (0, .ref (gAd G 9)), (1, .int a0), (2, .int a1)]) hx hb dX0_missedAtHome_63 hl (k := 1) rfl (rfl) (by decide) rfl (fun ls hl => ?_)
            refine lv_iinc (v := nI (d + 1)) (lv' := [(4, .int (nI (d + 1))), (3, .int (v + 1)), (0, .ref (gAd G 9)), (1, .int a0), (2, .int a1)]) hx hb dX0_missedAtHome_66 hl (k := 1) rfl (nI_1 _) (by decide) rfl (fun ls hl => ?_)
            refine lv_goto (tgt := 5) hx hb dX0_missedAtHome_69 (by decide) ?_
            exact ih5 (d + 1) (v + 1) _ _ _ (by omega) (by rw [hv, show sMiss σ a0 a1 (σ 11 k) (d + 1) = sMiss σ a0 a1 (σ 11 k) d + 1 from if_pos ⟨c_1, c_2, c_3⟩, nI_1]) hW (lv_sub hl [0, 1, 2, 3, 4] rfl)
  exact L5 D 0 0 _ _ _ (by omega) (by first | rfl | simp [bI]) hW (lv_sub hl [0, 1, 2, 3, 4] rfl)
set_option maxHeartbeats 4000000 in
set_option maxRecDepth 100000 in
theorem k_add (l : Launch) (G : gG) (σ : gSt) (τ : Nat → Int64) (a0 a1 a2 : Int32) (hd : Nat) (hh : σ 73 0 = nI hd) (hh6 : hd ≤ 6) : gI l yX1_add cX1_add 4 (some .boolean) 0 0 G [.ref (gAd G 73), .int a0, .int a1, .int a2] σ τ (bI (decide (hd < 6))) (if hd < 6 then gu (gu (gu (gu σ 74 hd a0) 75 hd a1) 76 hd a2) 73 0 (nI (hd + 1)) else σ) τ := by
  refine gMet_of (by decide) (Nat.le_of_ble_eq_true rfl) ?_
  intro p e s m args below meth c C hr hlk ls hl hW
  have hx := C.1
  have hb := C.2.1
  have hl : lv_has ls 4 [(0, .ref (gAd G 73)), (1, .int a0), (2, .int a1), (3, .int a2)] := hl
  refine lv_aload_n hx hb dX1_add_0 rfl (lv_at hl 0 rfl) ?_
  refine gf_X1_21 (v := nI hd) C hW (by decide) rfl hh dX1_add_1 ?_
  refine lv_bipush (v := 6) hx hb dX1_add_4 (by decide) ?_
  refine lv_icmp_lt (tgt := 11) hx hb dX1_add_6 (by decide) (fun c_1 => ?_) (fun c_1 => ?_)
  · skip
    replace c_1 : hd < 6 := (nI_ltI (a := hd) (b := 6) (by omega) (by omega)).mp c_1
    refine lv_aload_n hx hb dX1_add_11 rfl (lv_at hl 0 rfl) ?_
    refine gf_X1_9 C hW (by decide) rfl dX1_add_12 ?_
    refine lv_aload_n hx hb dX1_add_15 rfl (lv_at hl 0 rfl) ?_
    refine gf_X1_21 (v := nI hd) C hW (by decide) rfl hh dX1_add_16 ?_
    refine lv_iload_n hx hb dX1_add_19 rfl (lv_at hl 1 rfl) ?_
    refine g_ast hd C hW (by decide) rfl rfl (show hd < 6 by omega) (by decide) dX1_add_20 (fun H locs hW => ?_)
    refine lv_aload_n hx hb dX1_add_21 rfl (lv_at hl 0 rfl) ?_
    refine gf_X1_15 C hW (by decide) rfl dX1_add_22 ?_
    refine lv_aload_n hx hb dX1_add_25 rfl (lv_at hl 0 rfl) ?_
    refine gf_X1_21 (v := nI hd) C hW (by decide) rfl hh dX1_add_26 ?_
    refine lv_iload_n hx hb dX1_add_29 rfl (lv_at hl 2 rfl) ?_
    refine g_ast hd C hW (by decide) rfl rfl (show hd < 6 by omega) (by decide) dX1_add_30 (fun H locs hW => ?_)
    refine lv_aload_n hx hb dX1_add_31 rfl (lv_at hl 0 rfl) ?_
    refine gf_X1_18 C hW (by decide) rfl dX1_add_32 ?_
    refine lv_aload_n hx hb dX1_add_35 rfl (lv_at hl 0 rfl) ?_
    refine gf_X1_21 (v := nI hd) C hW (by decide) rfl hh dX1_add_36 ?_
    refine lv_iload_n hx hb dX1_add_39 rfl (lv_at hl 3 rfl) ?_
    refine g_ast hd C hW (by decide) rfl rfl (show hd < 6 by omega) (by decide) dX1_add_40 (fun H locs hW => ?_)
    refine lv_aload_n hx hb dX1_add_41 rfl (lv_at hl 0 rfl) ?_
    refine lv_dup hx hb dX1_add_42 rfl ?_
    refine gf_X1_21 (v := nI hd) C hW (by decide) rfl hh dX1_add_43 ?_
    refine lv_iconst (v := 1) hx hb dX1_add_46 (by decide) ?_
    refine lv_iadd hx hb dX1_add_47 ?_
    refine gp_X1_21 C hW (by decide) rfl dX1_add_48 (fun H locs hW => ?_)
    refine lv_iconst (v := 1) hx hb dX1_add_51 (by decide) ?_
    exact g_zret C hr hlk hW dX1_add_52 (rfl) (by rw [dpos c_1]; rfl) (by rw [if_pos c_1, nI_1]) (rfl)
  · skip
    replace c_1 : 6 ≤ hd := Nat.not_lt.mp (mt (nI_ltI (a := hd) (b := 6) (by omega) (by omega)).mpr c_1)
    refine lv_iconst (v := 0) hx hb dX1_add_9 (by decide) ?_
    exact g_zret C hr hlk hW dX1_add_10 (rfl) (by rw [decide_eq_false (by omega)]; rfl) (by rw [if_neg (by omega)]) (rfl)
set_option maxHeartbeats 4000000 in
set_option maxRecDepth 100000 in
theorem k_drop (l : Launch) (G : gG) (σ : gSt) (τ : Nat → Int64) : gI l yX1_drop cX1_drop 2 (some .int) 0 0 G [.ref (gAd G 73)] σ τ (σ 73 0) (gu σ 73 0 0) τ := by
  refine gMet_of (by decide) (Nat.le_of_ble_eq_true rfl) ?_
  intro p e s m args below meth c C hr hlk ls hl hW
  have hx := C.1
  have hb := C.2.1
  have hl : lv_has ls 2 [(0, .ref (gAd G 73))] := hl
  refine lv_aload_n hx hb dX1_drop_0 rfl (lv_at hl 0 rfl) ?_
  refine gf_X1_21 (v := σ 73 0) C hW (by decide) rfl rfl dX1_drop_1 ?_
  refine lv_istore_n (lv' := [(1, .int (σ 73 0)), (0, .ref (gAd G 73))]) hx hb dX1_drop_4 rfl hl (by decide) rfl (fun ls hl => ?_)
  refine lv_aload_n hx hb dX1_drop_5 rfl (lv_at hl 1 rfl) ?_
  refine lv_iconst (v := 0) hx hb dX1_drop_6 (by decide) ?_
  refine gp_X1_21 C hW (by decide) rfl dX1_drop_7 (fun H locs hW => ?_)
  refine lv_iload_n hx hb dX1_drop_10 rfl (lv_at hl 0 rfl) ?_
  exact g_iret C hr hlk hW dX1_drop_11 (by simp [bI]) (rfl) (rfl)
set_option maxHeartbeats 4000000 in
set_option maxRecDepth 100000 in
theorem k_fits (l : Launch) (G : gG) (σ : gSt) (τ : Nat → Int64) (a0 a1 : Int32) (hd : Nat) (hh : σ 73 0 = nI hd) (hh6 : hd ≤ 6) (D : Nat) (hD : σ 10 2 = nI D) (hD8 : D ≤ 8) : gI l yX1_fits cX1_fits 5 (some .boolean) 4 90 G [.ref (gAd G 73), .ref (gAd G 9), .int a0, .int a1] σ τ (bI (sFits σ a0 a1 D hd)) σ τ := by
  refine gMet_of (by decide) (Nat.le_of_ble_eq_true rfl) ?_
  intro p e s m args below meth c C hr hlk ls hl hW
  have hx := C.1
  have hb := C.2.1
  have hl : lv_has ls 5 [(0, .ref (gAd G 73)), (1, .ref (gAd G 9)), (2, .int a0), (3, .int a1)] := hl
  refine lv_iconst (v := 0) hx hb dX1_fits_0 (by decide) ?_
  refine lv_istore (lv' := [(4, .int 0), (0, .ref (gAd G 73)), (1, .ref (gAd G 9)), (2, .int a0), (3, .int a1)]) hx hb dX1_fits_1 hl (by decide) rfl (fun ls hl => ?_)
  have L3 : ∀ (n : Nat) (e_ : Nat) (H : Heap) (locs : List Loc) (ls : Array Slot), n + e_ = hd → (kFits (σ 74) (σ 75) (σ 76) a0 (fun mi => sRungAt σ a1 a0 mi D) n e_ = sFits σ a0 a1 D hd) → gW G s σ τ H locs → lv_has ls 5 [(4, .int (nI e_)), (0, .ref (gAd G 73)), (1, .ref (gAd G 9)), (2, .int a0), (3, .int a1)] → W p l e (gRm 4 90) s m args below meth c H locs 0 0 (MQ below (gQi G (bI (sFits σ a0 a1 D hd)) σ τ) args s 0 0 (gA G)) (F0 m 3 ls []) := by
    intro n
    induction n with
    | zero =>
      intro e_ H locs ls hm hq hW hl
      refine lv_iload hx hb dX1_fits_3 (lv_at hl 0 rfl) ?_
      refine lv_aload_n hx hb dX1_fits_5 rfl (lv_at hl 1 rfl) ?_
      refine gf_X1_21 (v := nI hd) C hW (by decide) rfl hh dX1_fits_6 ?_
      refine lv_icmp_ge (tgt := 63) hx hb dX1_fits_9 (by decide) (fun _ => ?_) (fun zz => absurd (show nI hd ≤ nI e_ from nI_le (by omega) (by omega)) zz)
      refine lv_iconst (v := 1) hx hb dX1_fits_63 (by decide) ?_
      exact g_zret C hr hlk hW dX1_fits_64 (rfl) (by rw [← hq]; rfl) (rfl) (rfl)
    | succ n ih3 =>
      intro e_ H locs ls hm hq hW hl
      refine lv_iload hx hb dX1_fits_3 (lv_at hl 0 rfl) ?_
      refine lv_aload_n hx hb dX1_fits_5 rfl (lv_at hl 1 rfl) ?_
      refine gf_X1_21 (v := nI hd) C hW (by decide) rfl hh dX1_fits_6 ?_
      refine lv_icmp_ge (tgt := 63) hx hb dX1_fits_9 (by decide) (fun zz => absurd zz (show ¬ nI hd ≤ nI e_ from nI_ge (by omega) (by omega))) (fun _ => ?_)
      refine lv_aload_n hx hb dX1_fits_12 rfl (lv_at hl 1 rfl) ?_
      refine gf_X1_9 C hW (by decide) rfl dX1_fits_13 ?_
      refine lv_iload hx hb dX1_fits_16 (lv_at hl 0 rfl) ?_
      refine g_ald (v := σ 74 e_) e_ C hW (by decide) rfl rfl (show e_ < 6 by omega) (by decide) rfl dX1_fits_18 ?_
      refine lv_iload_n hx hb dX1_fits_19 rfl (lv_at hl 3 rfl) ?_
      refine lv_icmp_ne (tgt := 57) hx hb dX1_fits_20 (by decide) (fun c_1 => ?_) (fun c_1 => ?_)
      · skip
        refine lv_iinc (v := nI (e_ + 1)) (lv' := [(4, .int (nI (e_ + 1))), (0, .ref (gAd G 73)), (1, .ref (gAd G 9)), (2, .int a0), (3, .int a1)]) hx hb dX1_fits_57 hl (k := 0) rfl (nI_1 _) (by decide) rfl (fun ls hl => ?_)
        refine lv_goto (tgt := 3) hx hb dX1_fits_60 (by decide) ?_
        exact ih3 (e_ + 1) _ _ _ (by omega) (by rw [← hq, kFits, if_neg (fun q => c_1 q.1)]) hW (lv_sub hl [0, 1, 2, 3, 4] rfl)
      · skip
        refine lv_aload_n hx hb dX1_fits_23 rfl (lv_at hl 2 rfl) ?_
        refine lv_iload_n hx hb dX1_fits_24 rfl (lv_at hl 4 rfl) ?_
        refine lv_iload_n hx hb dX1_fits_25 rfl (lv_at hl 3 rfl) ?_
        refine lv_aload_n hx hb dX1_fits_26 rfl (lv_at hl 1 rfl) ?_
        refine gf_X1_15 C hW (by decide) rfl dX1_fits_27 ?_
        refine lv_iload hx hb dX1_fits_30 (lv_at hl 0 rfl) ?_
        refine g_ald (v := σ 75 e_) e_ C hW (by decide) rfl rfl (show e_ < 6 by omega) (by decide) rfl dX1_fits_32 ?_
        refine g_callvI (r := bI (sRungAt σ a1 a0 (σ 75 e_) D)) (σ' := σ) (rest := []) (As := [.int a1, .int a0, .int (σ 75 e_)]) C hW kv_X1_40 9 (by decide) (gL_0 rfl) rfl (k_isRungAt l G σ τ a1 a0 (σ 75 e_) D hD hD8) ⟨Nat.le_of_ble_eq_true rfl, Nat.le_of_ble_eq_true rfl⟩ ⟨Nat.le_refl _, Nat.le_refl _⟩ rfl hl.1 rfl (Nat.le_of_ble_eq_true rfl) dX1_fits_33 (fun H locs hW => ?_)
        have K52 : ∀ (z : Bool), z = (decide (σ 76 e_ = 1)) → ∀ (H : Heap) (locs : List Loc) (ls : Array Slot), gW G s σ τ H locs → lv_has ls 5 [(4, .int (nI e_)), (0, .ref (gAd G 73)), (1, .ref (gAd G 9)), (2, .int a0), (3, .int a1)] → W p l e (gRm 4 90) s m args below meth c H locs 0 0 (MQ below (gQi G (bI (sFits σ a0 a1 D hd)) σ τ) args s 0 0 (gA G)) (F0 m 52 ls [.int (bI z), .int (bI (sRungAt σ a1 a0 (σ 75 e_) D))]) := by
          intro z hz H locs ls hW hl
          refine lv_icmp_eq (tgt := 57) hx hb dX1_fits_52 (by decide) (fun c_2 => ?_) (fun c_2 => ?_)
          · skip
            refine lv_iinc (v := nI (e_ + 1)) (lv' := [(4, .int (nI (e_ + 1))), (0, .ref (gAd G 73)), (1, .ref (gAd G 9)), (2, .int a0), (3, .int a1)]) hx hb dX1_fits_57 hl (k := 0) rfl (nI_1 _) (by decide) rfl (fun ls hl => ?_)
            refine lv_goto (tgt := 3) hx hb dX1_fits_60 (by decide) ?_
            exact ih3 (e_ + 1) _ _ _ (by omega) (by rw [← hq, kFits, if_neg (fun q => q.2 (by rw [← hz, ← bI_inj.mp c_2]))]) hW (lv_sub hl [0, 1, 2, 3, 4] rfl)
          · skip
            refine lv_iconst (v := 0) hx hb dX1_fits_55 (by decide) ?_
            exact g_zret C hr hlk hW dX1_fits_56 (rfl) (by rw [← hq, kFits, if_pos ⟨c_1, fun q => c_2 (by rw [hz, ← q])⟩]; rfl) (rfl) (rfl)
        refine lv_aload_n hx hb dX1_fits_36 rfl (lv_at hl 1 rfl) ?_
        refine gf_X1_18 C hW (by decide) rfl dX1_fits_37 ?_
        refine lv_iload hx hb dX1_fits_40 (lv_at hl 0 rfl) ?_
        refine g_ald (v := σ 76 e_) e_ C hW (by decide) rfl rfl (show e_ < 6 by omega) (by decide) rfl dX1_fits_42 ?_
        refine lv_iconst (v := 1) hx hb dX1_fits_43 (by decide) ?_
        refine lv_icmp_ne (tgt := 51) hx hb dX1_fits_44 (by decide) (fun c_3 => ?_) (fun c_3 => ?_)
        · skip
          refine lv_iconst (v := 0) hx hb dX1_fits_51 (by decide) ?_
          exact K52 false (by simp [c_3]) _ _ _ hW (lv_sub hl [0, 1, 2, 3, 4] rfl)
        · skip
          refine lv_iconst (v := 1) hx hb dX1_fits_47 (by decide) ?_
          refine lv_goto (tgt := 52) hx hb dX1_fits_48 (by decide) ?_
          exact K52 true (by simp [c_3]) _ _ _ hW (lv_sub hl [0, 1, 2, 3, 4] rfl)
  exact L3 hd 0 _ _ _ (by omega) rfl hW (lv_sub hl [0, 1, 2, 3, 4] rfl)
set_option maxHeartbeats 4000000 in
set_option maxRecDepth 100000 in
theorem k_placesFor (l : Launch) (G : gG) (σ : gSt) (τ : Nat → Int64) (a0 : Int32) (hd : Nat) (hh : σ 73 0 = nI hd) (hh6 : hd ≤ 6) (D : Nat) (hD : σ 10 2 = nI D) (hD8 : D ≤ 8) (P : Nat) (hP : σ 10 0 = nI P) (hP6 : P ≤ 6) : gI l yX1_placesFor cX1_placesFor 5 (some .int) 5 114 G [.ref (gAd G 73), .ref (gAd G 9), .int a0] σ τ (kPlaces (fun k => sFits σ a0 (nI k) D hd) P) σ τ := by
  refine gMet_of (by decide) (Nat.le_of_ble_eq_true rfl) ?_
  intro p e s m args below meth c C hr hlk ls hl hW
  have hx := C.1
  have hb := C.2.1
  have hl : lv_has ls 5 [(0, .ref (gAd G 73)), (1, .ref (gAd G 9)), (2, .int a0)] := hl
  refine lv_iconst (v := 0) hx hb dX1_placesFor_0 (by decide) ?_
  refine lv_istore_n (lv' := [(3, .int 0), (0, .ref (gAd G 73)), (1, .ref (gAd G 9)), (2, .int a0)]) hx hb dX1_placesFor_1 rfl hl (by decide) rfl (fun ls hl => ?_)
  refine lv_iconst (v := 0) hx hb dX1_placesFor_2 (by decide) ?_
  refine lv_istore (lv' := [(4, .int 0), (3, .int 0), (0, .ref (gAd G 73)), (1, .ref (gAd G 9)), (2, .int a0)]) hx hb dX1_placesFor_3 hl (by decide) rfl (fun ls hl => ?_)
  have L5 : ∀ (n : Nat) (k : Nat) (v : Int32) (H : Heap) (locs : List Loc) (ls : Array Slot), n + k = P → v = (kPlaces (fun k => sFits σ a0 (nI k) D hd) k) → gW G s σ τ H locs → lv_has ls 5 [(4, .int (nI k)), (3, .int v), (0, .ref (gAd G 73)), (1, .ref (gAd G 9)), (2, .int a0)] → W p l e (gRm 5 114) s m args below meth c H locs 0 0 (MQ below (gQi G (kPlaces (fun k => sFits σ a0 (nI k) D hd) P) σ τ) args s 0 0 (gA G)) (F0 m 5 ls []) := by
    intro n
    induction n with
    | zero =>
      intro k v H locs ls hm hv hW hl
      refine lv_iload hx hb dX1_placesFor_5 (lv_at hl 0 rfl) ?_
      refine lv_aload_n hx hb dX1_placesFor_7 rfl (lv_at hl 3 rfl) ?_
      refine gf_X1_25 C hW (by decide) rfl dX1_placesFor_8 ?_
      refine gf_X1_31 (v := nI P) C hW (by decide) rfl hP dX1_placesFor_11 ?_
      refine lv_icmp_ge (tgt := 41) hx hb dX1_placesFor_14 (by decide) (fun _ => ?_) (fun zz => absurd (show nI P ≤ nI k from nI_le (by omega) (by omega)) zz)
      refine lv_iload_n hx hb dX1_placesFor_41 rfl (lv_at hl 1 rfl) ?_
      exact g_iret C hr hlk hW dX1_placesFor_42 (by rw [hv, show k = P by omega]) (rfl) (rfl)
    | succ n ih5 =>
      intro k v H locs ls hm hv hW hl
      refine lv_iload hx hb dX1_placesFor_5 (lv_at hl 0 rfl) ?_
      refine lv_aload_n hx hb dX1_placesFor_7 rfl (lv_at hl 3 rfl) ?_
      refine gf_X1_25 C hW (by decide) rfl dX1_placesFor_8 ?_
      refine gf_X1_31 (v := nI P) C hW (by decide) rfl hP dX1_placesFor_11 ?_
      refine lv_icmp_ge (tgt := 41) hx hb dX1_placesFor_14 (by decide) (fun zz => absurd zz (show ¬ nI P ≤ nI k from nI_ge (by omega) (by omega))) (fun _ => ?_)
      refine lv_aload_n hx hb dX1_placesFor_17 rfl (lv_at hl 2 rfl) ?_
      refine lv_aload_n hx hb dX1_placesFor_18 rfl (lv_at hl 3 rfl) ?_
      refine lv_iload_n hx hb dX1_placesFor_19 rfl (lv_at hl 4 rfl) ?_
      refine lv_iload hx hb dX1_placesFor_20 (lv_at hl 0 rfl) ?_
      refine g_callvI (r := bI (sFits σ a0 (nI k) D hd)) (σ' := σ) (rest := []) (As := [.ref (gAd G 9), .int a0, .int (nI k)]) C hW kv_X1_36 73 (by decide) (gL_1 rfl) rfl (k_fits l G σ τ a0 (nI k) hd hh hh6 D hD hD8) ⟨Nat.le_of_ble_eq_true rfl, Nat.le_of_ble_eq_true rfl⟩ ⟨Nat.le_refl _, Nat.le_refl _⟩ rfl hl.1 rfl (Nat.le_of_ble_eq_true rfl) dX1_placesFor_22 (fun H locs hW => ?_)
      refine lv_if_eq (tgt := 35) hx hb dX1_placesFor_25 (by decide) (fun c_1 => ?_) (fun c_1 => ?_)
      · skip
        replace c_1 : (sFits σ a0 (nI k) D hd) = false := bI_eq0.mp c_1
        refine lv_iinc (v := nI (k + 1)) (lv' := [(4, .int (nI (k + 1))), (3, .int v), (0, .ref (gAd G 73)), (1, .ref (gAd G 9)), (2, .int a0)]) hx hb dX1_placesFor_35 hl (k := 0) rfl (nI_1 _) (by decide) rfl (fun ls hl => ?_)
        refine lv_goto (tgt := 5) hx hb dX1_placesFor_38 (by decide) ?_
        exact ih5 (k + 1) v _ _ _ (by omega) (by rw [kPlaces, ← hv, if_neg (bneg c_1)]) hW (lv_sub hl [0, 1, 2, 3, 4] rfl)
      · skip
        replace c_1 : (sFits σ a0 (nI k) D hd) = true := bI_ne0.mp c_1
        refine lv_iload_n hx hb dX1_placesFor_28 rfl (lv_at hl 1 rfl) ?_
        refine lv_iconst (v := 1) hx hb dX1_placesFor_29 (by decide) ?_
        refine lv_iload hx hb dX1_placesFor_30 (lv_at hl 0 rfl) ?_
        refine lv_ishl hx hb dX1_placesFor_32 ?_
        refine lv_ior hx hb dX1_placesFor_33 ?_
        refine lv_istore_n (lv' := [(3, .int (v ||| (1 <<< ((nI k) &&& 31)))), (4, .int (nI k)), (0, .ref (gAd G 73)), (1, .ref (gAd G 9)), (2, .int a0)]) hx hb dX1_placesFor_34 rfl hl (by decide) rfl (fun ls hl => ?_)
        refine lv_iinc (v := nI (k + 1)) (lv' := [(4, .int (nI (k + 1))), (3, .int (v ||| (1 <<< ((nI k) &&& 31)))), (0, .ref (gAd G 73)), (1, .ref (gAd G 9)), (2, .int a0)]) hx hb dX1_placesFor_35 hl (k := 1) rfl (nI_1 _) (by decide) rfl (fun ls hl => ?_)
        refine lv_goto (tgt := 5) hx hb dX1_placesFor_38 (by decide) ?_
        exact ih5 (k + 1) (v ||| (1 <<< ((nI k) &&& 31))) _ _ _ (by omega) (by rw [kPlaces, ← hv, if_pos c_1]) hW (lv_sub hl [0, 1, 2, 3, 4] rfl)
  exact L5 P 0 0 _ _ _ (by omega) (by first | rfl | simp [bI]) hW (lv_sub hl [0, 1, 2, 3, 4] rfl)
set_option maxHeartbeats 4000000 in
set_option maxRecDepth 100000 in
theorem k_asDuty (l : Launch) (G : gG) (σ : gSt) (τ : Nat → Int64) (a0 : Int32) (d : Nat) (hd : a0 = nI d) (hd8 : d < 8) : gI l yX5_asDuty cX5_asDuty 3 (some .int) 0 0 G [.ref (gAd G 83), .ref (gAd G 9), .int a0] σ τ (σ 15 d) σ (kT τ 1) := by
  refine gMet_of (by decide) (Nat.le_of_ble_eq_true rfl) ?_
  intro p e s m args below meth c C hr hlk ls hl hW
  have hx := C.1
  have hb := C.2.1
  have hl : lv_has ls 3 [(0, .ref (gAd G 83)), (1, .ref (gAd G 9)), (2, .int a0)] := hl
  refine lv_aload_n hx hb dX5_asDuty_0 rfl (lv_at hl 0 rfl) ?_
  refine lv_dup hx hb dX5_asDuty_1 rfl ?_
  refine gf_X5_28 C hW (by decide) rfl dX5_asDuty_2 ?_
  refine lv_lconst (v := 1) hx hb dX5_asDuty_5 (by decide) ?_
  refine lv_ladd hx hb dX5_asDuty_6 ?_
  refine gp_X5_28 C hW (by decide) rfl dX5_asDuty_7 (fun H locs hW => ?_)
  refine lv_aload_n hx hb dX5_asDuty_10 rfl (lv_at hl 1 rfl) ?_
  refine gf_X5_32 C hW (by decide) rfl dX5_asDuty_11 ?_
  refine gf_X5_38 C hW (by decide) rfl dX5_asDuty_14 ?_
  refine lv_iload_n hx hb dX5_asDuty_17 rfl (lv_at hl 2 rfl) ?_
  refine g_ald (v := σ 15 d) d C hW (by decide) rfl hd (show d < 8 by omega) (by decide) rfl dX5_asDuty_18 ?_
  exact g_iret C hr hlk hW dX5_asDuty_19 (by simp [bI]) (rfl) (rfl)
set_option maxHeartbeats 4000000 in
set_option maxRecDepth 100000 in
theorem k_asWatch (l : Launch) (G : gG) (σ : gSt) (τ : Nat → Int64) (a0 : Int32) (d : Nat) (hd : a0 = nI d) (hd8 : d < 8) : gI l yX5_asWatch cX5_asWatch 3 (some .int) 1 22 G [.ref (gAd G 83), .ref (gAd G 9), .int a0] σ τ (σ 15 d + σ 13 d) σ (kT (kT τ 10) 1) := by
  refine gMet_of (by decide) (Nat.le_of_ble_eq_true rfl) ?_
  intro p e s m args below meth c C hr hlk ls hl hW
  have hx := C.1
  have hb := C.2.1
  have hl : lv_has ls 3 [(0, .ref (gAd G 83)), (1, .ref (gAd G 9)), (2, .int a0)] := hl
  refine lv_aload_n hx hb dX5_asWatch_0 rfl (lv_at hl 0 rfl) ?_
  refine lv_dup hx hb dX5_asWatch_1 rfl ?_
  refine gf_X5_28 C hW (by decide) rfl dX5_asWatch_2 ?_
  refine lv_ldc2 (v := 10) hx hb C.2.2.2.1 (C.2.2.2.2.1 _ kcn_X5_44) dX5_asWatch_5 ?_
  refine lv_ladd hx hb dX5_asWatch_8 ?_
  refine gp_X5_28 C hW (by decide) rfl dX5_asWatch_9 (fun H locs hW => ?_)
  refine lv_aload_n hx hb dX5_asWatch_12 rfl (lv_at hl 0 rfl) ?_
  refine lv_aload_n hx hb dX5_asWatch_13 rfl (lv_at hl 1 rfl) ?_
  refine lv_iload_n hx hb dX5_asWatch_14 rfl (lv_at hl 2 rfl) ?_
  refine g_callvI (r := σ 15 d) (σ' := σ) (τ' := kT (va_up τ 83 ((τ 83) + 10)) 1) (rest := []) (As := [.ref (gAd G 9), .int a0]) C hW kv_X5_25 83 (by decide) (gL_5 rfl) rfl (k_asDuty l G σ (va_up τ 83 ((τ 83) + 10)) a0 d hd hd8) ⟨Nat.le_of_ble_eq_true rfl, Nat.le_of_ble_eq_true rfl⟩ ⟨Nat.le_refl _, Nat.le_refl _⟩ rfl hl.1 rfl (Nat.le_of_ble_eq_true rfl) dX5_asWatch_15 (fun H locs hW => ?_)
  refine lv_aload_n hx hb dX5_asWatch_18 rfl (lv_at hl 1 rfl) ?_
  refine gf_X5_32 C hW (by decide) rfl dX5_asWatch_19 ?_
  refine gf_X5_46 C hW (by decide) rfl dX5_asWatch_22 ?_
  refine lv_iload_n hx hb dX5_asWatch_25 rfl (lv_at hl 2 rfl) ?_
  refine g_ald (v := σ 13 d) d C hW (by decide) rfl hd (show d < 8 by omega) (by decide) rfl dX5_asWatch_26 ?_
  refine lv_iadd hx hb dX5_asWatch_27 ?_
  exact g_iret C hr hlk hW dX5_asWatch_28 (rfl) (rfl) (rfl)
set_option maxHeartbeats 4000000 in
set_option maxRecDepth 100000 in
theorem k_asSchool (l : Launch) (G : gG) (σ : gSt) (τ : Nat → Int64) (a0 : Int32) (d : Nat) (hd : a0 = nI d) (hd8 : d < 8) : gI l yX5_asSchool cX5_asSchool 4 (some .int) 1 22 G [.ref (gAd G 83), .ref (gAd G 9), .int a0] σ τ (if kBit (σ 16 1) a0 = 1 then σ 15 d - 7 else σ 15 d) σ (kT (kT τ 100) 1) := by
  refine gMet_of (by decide) (Nat.le_of_ble_eq_true rfl) ?_
  intro p e s m args below meth c C hr hlk ls hl hW
  have hx := C.1
  have hb := C.2.1
  have hl : lv_has ls 4 [(0, .ref (gAd G 83)), (1, .ref (gAd G 9)), (2, .int a0)] := hl
  refine lv_aload_n hx hb dX5_asSchool_0 rfl (lv_at hl 0 rfl) ?_
  refine lv_dup hx hb dX5_asSchool_1 rfl ?_
  refine gf_X5_28 C hW (by decide) rfl dX5_asSchool_2 ?_
  refine lv_ldc2 (v := 100) hx hb C.2.2.2.1 (C.2.2.2.2.1 _ kcn_X5_49) dX5_asSchool_5 ?_
  refine lv_ladd hx hb dX5_asSchool_8 ?_
  refine gp_X5_28 C hW (by decide) rfl dX5_asSchool_9 (fun H locs hW => ?_)
  refine lv_aload_n hx hb dX5_asSchool_12 rfl (lv_at hl 0 rfl) ?_
  refine lv_aload_n hx hb dX5_asSchool_13 rfl (lv_at hl 1 rfl) ?_
  refine lv_iload_n hx hb dX5_asSchool_14 rfl (lv_at hl 2 rfl) ?_
  refine g_callvI (r := σ 15 d) (σ' := σ) (τ' := kT (va_up τ 83 ((τ 83) + 100)) 1) (rest := []) (As := [.ref (gAd G 9), .int a0]) C hW kv_X5_25 83 (by decide) (gL_5 rfl) rfl (k_asDuty l G σ (va_up τ 83 ((τ 83) + 100)) a0 d hd hd8) ⟨Nat.le_of_ble_eq_true rfl, Nat.le_of_ble_eq_true rfl⟩ ⟨Nat.le_refl _, Nat.le_refl _⟩ rfl hl.1 rfl (Nat.le_of_ble_eq_true rfl) dX5_asSchool_15 (fun H locs hW => ?_)
  refine lv_istore_n (lv' := [(3, .int (σ 15 d)), (0, .ref (gAd G 83)), (1, .ref (gAd G 9)), (2, .int a0)]) hx hb dX5_asSchool_18 rfl hl (by decide) rfl (fun ls hl => ?_)
  refine lv_aload_n hx hb dX5_asSchool_19 rfl (lv_at hl 2 rfl) ?_
  refine gf_X5_51 C hW (by decide) rfl dX5_asSchool_20 ?_
  refine gf_X5_55 (v := σ 16 1) C hW (by decide) rfl rfl dX5_asSchool_23 ?_
  refine lv_iload_n hx hb dX5_asSchool_26 rfl (lv_at hl 3 rfl) ?_
  refine g_callnI (r := kBit (σ 16 1) a0) (σ' := σ) (rest := []) (As := [.int (σ 16 1), .int a0]) (host := RX9) C.2.2.2.2.2.2.2.2 C hW kn_X9_bit (k_bit l G σ (kT (va_up τ 83 ((τ 83) + 100)) 1) (σ 16 1) a0) ⟨Nat.le_of_ble_eq_true rfl, Nat.le_of_ble_eq_true rfl⟩ ⟨Nat.le_refl _, Nat.le_refl _⟩ rfl hl.1 rfl (Nat.le_of_ble_eq_true rfl) dX5_asSchool_27 (fun H locs hW => ?_)
  refine lv_iconst (v := 1) hx hb dX5_asSchool_30 (by decide) ?_
  refine lv_icmp_ne (tgt := 41) hx hb dX5_asSchool_31 (by decide) (fun c_1 => ?_) (fun c_1 => ?_)
  · skip
    refine lv_iload_n hx hb dX5_asSchool_41 rfl (lv_at hl 0 rfl) ?_
    exact g_iret C hr hlk hW dX5_asSchool_42 (by rw [if_neg c_1]) (rfl) (rfl)
  · skip
    refine lv_iload_n hx hb dX5_asSchool_34 rfl (lv_at hl 0 rfl) ?_
    refine lv_bipush (v := 7) hx hb dX5_asSchool_35 (by decide) ?_
    refine lv_isub hx hb dX5_asSchool_37 ?_
    refine lv_goto (tgt := 42) hx hb dX5_asSchool_38 (by decide) ?_
    exact g_iret C hr hlk hW dX5_asSchool_42 (by rw [if_pos c_1]) (rfl) (rfl)
set_option maxHeartbeats 4000000 in
set_option maxRecDepth 100000 in
theorem k_asChurch (l : Launch) (G : gG) (σ : gSt) (τ : Nat → Int64) (a0 : Int32) (d : Nat) (hd : a0 = nI d) (hd8 : d < 8) : gI l yX5_asChurch cX5_asChurch 3 (some .int) 2 44 G [.ref (gAd G 83), .ref (gAd G 9), .int a0] σ τ (2 * (σ 15 d + σ 13 d)) σ (kT (kT (kT τ 1000) 10) 1) := by
  refine gMet_of (by decide) (Nat.le_of_ble_eq_true rfl) ?_
  intro p e s m args below meth c C hr hlk ls hl hW
  have hx := C.1
  have hb := C.2.1
  have hl : lv_has ls 3 [(0, .ref (gAd G 83)), (1, .ref (gAd G 9)), (2, .int a0)] := hl
  refine lv_aload_n hx hb dX5_asChurch_0 rfl (lv_at hl 0 rfl) ?_
  refine lv_dup hx hb dX5_asChurch_1 rfl ?_
  refine gf_X5_28 C hW (by decide) rfl dX5_asChurch_2 ?_
  refine lv_ldc2 (v := 1000) hx hb C.2.2.2.1 (C.2.2.2.2.1 _ kcn_X5_67) dX5_asChurch_5 ?_
  refine lv_ladd hx hb dX5_asChurch_8 ?_
  refine gp_X5_28 C hW (by decide) rfl dX5_asChurch_9 (fun H locs hW => ?_)
  refine lv_iconst (v := 2) hx hb dX5_asChurch_12 (by decide) ?_
  refine lv_aload_n hx hb dX5_asChurch_13 rfl (lv_at hl 0 rfl) ?_
  refine lv_aload_n hx hb dX5_asChurch_14 rfl (lv_at hl 1 rfl) ?_
  refine lv_iload_n hx hb dX5_asChurch_15 rfl (lv_at hl 2 rfl) ?_
  refine g_callvI (r := σ 15 d + σ 13 d) (σ' := σ) (τ' := kT (kT (va_up τ 83 ((τ 83) + 1000)) 10) 1) (rest := [.int 2]) (As := [.ref (gAd G 9), .int a0]) C hW kv_X5_7 83 (by decide) (gL_5 rfl) rfl (k_asWatch l G σ (va_up τ 83 ((τ 83) + 1000)) a0 d hd hd8) ⟨Nat.le_of_ble_eq_true rfl, Nat.le_of_ble_eq_true rfl⟩ ⟨Nat.le_refl _, Nat.le_refl _⟩ rfl hl.1 rfl (Nat.le_of_ble_eq_true rfl) dX5_asChurch_16 (fun H locs hW => ?_)
  refine lv_imul hx hb dX5_asChurch_19 ?_
  exact g_iret C hr hlk hW dX5_asChurch_20 (rfl) (rfl) (rfl)
set_option maxHeartbeats 4000000 in
set_option maxRecDepth 100000 in
theorem k_asHearth (l : Launch) (G : gG) (σ : gSt) (τ : Nat → Int64) (a0 : Int32) (d : Nat) (hd : a0 = nI d) (hd8 : d < 8) : gI l yX5_asHearth cX5_asHearth 3 (some .int) 2 45 G [.ref (gAd G 83), .ref (gAd G 9), .int a0] σ τ ((if kBit (σ 16 1) a0 = 1 then σ 15 d - 7 else σ 15 d) + a0) σ (kT (kT (kT τ 10000) 100) 1) := by
  refine gMet_of (by decide) (Nat.le_of_ble_eq_true rfl) ?_
  intro p e s m args below meth c C hr hlk ls hl hW
  have hx := C.1
  have hb := C.2.1
  have hl : lv_has ls 3 [(0, .ref (gAd G 83)), (1, .ref (gAd G 9)), (2, .int a0)] := hl
  refine lv_aload_n hx hb dX5_asHearth_0 rfl (lv_at hl 0 rfl) ?_
  refine lv_dup hx hb dX5_asHearth_1 rfl ?_
  refine gf_X5_28 C hW (by decide) rfl dX5_asHearth_2 ?_
  refine lv_ldc2 (v := 10000) hx hb C.2.2.2.1 (C.2.2.2.2.1 _ kcn_X5_69) dX5_asHearth_5 ?_
  refine lv_ladd hx hb dX5_asHearth_8 ?_
  refine gp_X5_28 C hW (by decide) rfl dX5_asHearth_9 (fun H locs hW => ?_)
  refine lv_aload_n hx hb dX5_asHearth_12 rfl (lv_at hl 0 rfl) ?_
  refine lv_aload_n hx hb dX5_asHearth_13 rfl (lv_at hl 1 rfl) ?_
  refine lv_iload_n hx hb dX5_asHearth_14 rfl (lv_at hl 2 rfl) ?_
  refine g_callvI (r := (if kBit (σ 16 1) a0 = 1 then σ 15 d - 7 else σ 15 d)) (σ' := σ) (τ' := kT (kT (va_up τ 83 ((τ 83) + 10000)) 100) 1) (rest := []) (As := [.ref (gAd G 9), .int a0]) C hW kv_X5_13 83 (by decide) (gL_5 rfl) rfl (k_asSchool l G σ (va_up τ 83 ((τ 83) + 10000)) a0 d hd hd8) ⟨Nat.le_of_ble_eq_true rfl, Nat.le_of_ble_eq_true rfl⟩ ⟨Nat.le_refl _, Nat.le_refl _⟩ rfl hl.1 rfl (Nat.le_of_ble_eq_true rfl) dX5_asHearth_15 (fun H locs hW => ?_)
  refine lv_iload_n hx hb dX5_asHearth_18 rfl (lv_at hl 2 rfl) ?_
  refine lv_iadd hx hb dX5_asHearth_19 ?_
  exact g_iret C hr hlk hW dX5_asHearth_20 (rfl) (rfl) (rfl)
set_option maxHeartbeats 4000000 in
set_option maxRecDepth 100000 in
theorem k_asMarket (l : Launch) (G : gG) (σ : gSt) (τ : Nat → Int64) (a0 : Int32) (d : Nat) (hd : a0 = nI d) (hd8 : d < 8) (how : σ 20 d = nI (σ 20 d).toNatClampNeg ∧ (σ 20 d).toNatClampNeg < 5) : gI l yX5_asMarket cX5_asMarket 3 (some .int) 1 22 G [.ref (gAd G 83), .ref (gAd G 9), .int a0] σ τ (σ 15 d + σ 19 (σ 20 d).toNatClampNeg) σ (kT (kT τ 100000) 1) := by
  refine gMet_of (by decide) (Nat.le_of_ble_eq_true rfl) ?_
  intro p e s m args below meth c C hr hlk ls hl hW
  have hx := C.1
  have hb := C.2.1
  have hl : lv_has ls 3 [(0, .ref (gAd G 83)), (1, .ref (gAd G 9)), (2, .int a0)] := hl
  refine lv_aload_n hx hb dX5_asMarket_0 rfl (lv_at hl 0 rfl) ?_
  refine lv_dup hx hb dX5_asMarket_1 rfl ?_
  refine gf_X5_28 C hW (by decide) rfl dX5_asMarket_2 ?_
  refine lv_ldc2 (v := 100000) hx hb C.2.2.2.1 (C.2.2.2.2.1 _ kcn_X5_71) dX5_asMarket_5 ?_
  refine lv_ladd hx hb dX5_asMarket_8 ?_
  refine gp_X5_28 C hW (by decide) rfl dX5_asMarket_9 (fun H locs hW => ?_)
  refine lv_aload_n hx hb dX5_asMarket_12 rfl (lv_at hl 0 rfl) ?_
  refine lv_aload_n hx hb dX5_asMarket_13 rfl (lv_at hl 1 rfl) ?_
  refine lv_iload_n hx hb dX5_asMarket_14 rfl (lv_at hl 2 rfl) ?_
  refine g_callvI (r := σ 15 d) (σ' := σ) (τ' := kT (va_up τ 83 ((τ 83) + 100000)) 1) (rest := []) (As := [.ref (gAd G 9), .int a0]) C hW kv_X5_25 83 (by decide) (gL_5 rfl) rfl (k_asDuty l G σ (va_up τ 83 ((τ 83) + 100000)) a0 d hd hd8) ⟨Nat.le_of_ble_eq_true rfl, Nat.le_of_ble_eq_true rfl⟩ ⟨Nat.le_refl _, Nat.le_refl _⟩ rfl hl.1 rfl (Nat.le_of_ble_eq_true rfl) dX5_asMarket_15 (fun H locs hW => ?_)
  refine lv_aload_n hx hb dX5_asMarket_18 rfl (lv_at hl 1 rfl) ?_
  refine gf_X5_51 C hW (by decide) rfl dX5_asMarket_19 ?_
  refine gf_X5_73 C hW (by decide) rfl dX5_asMarket_22 ?_
  refine lv_aload_n hx hb dX5_asMarket_25 rfl (lv_at hl 1 rfl) ?_
  refine gf_X5_51 C hW (by decide) rfl dX5_asMarket_26 ?_
  refine gf_X5_76 C hW (by decide) rfl dX5_asMarket_29 ?_
  refine lv_iload_n hx hb dX5_asMarket_32 rfl (lv_at hl 2 rfl) ?_
  refine g_ald (v := σ 20 d) d C hW (by decide) rfl hd (show d < 8 by omega) (by decide) rfl dX5_asMarket_33 ?_
  have hw5 := how.2
  refine g_ald (v := σ 19 ((σ 20 d).toNatClampNeg)) ((σ 20 d).toNatClampNeg) C hW (by decide) rfl how.1 (show ((σ 20 d).toNatClampNeg) < 5 by omega) (by decide) rfl dX5_asMarket_34 ?_
  refine lv_iadd hx hb dX5_asMarket_35 ?_
  exact g_iret C hr hlk hW dX5_asMarket_36 (rfl) (rfl) (rfl)
set_option maxHeartbeats 4000000 in
set_option maxRecDepth 100000 in
theorem k_as (l : Launch) (G : gG) (σ : gSt) (τ : Nat → Int64) (a1 a0 : Int32) (d : Nat) (hd : a0 = nI d) (hd8 : d < 8) (how : σ 20 d = nI (σ 20 d).toNatClampNeg ∧ (σ 20 d).toNatClampNeg < 5) : gI l yX5_as cX5_as 4 (some .int) 3 67 G [.ref (gAd G 83), .int a1, .ref (gAd G 9), .int a0] σ τ (if a1 = 1 then σ 15 d + σ 13 d else if a1 = 2 then (if kBit (σ 16 1) a0 = 1 then σ 15 d - 7 else σ 15 d) else if a1 = 3 then 2 * (σ 15 d + σ 13 d) else if a1 = 4 then (if kBit (σ 16 1) a0 = 1 then σ 15 d - 7 else σ 15 d) + a0 else if a1 = 5 then σ 15 d + σ 19 (σ 20 d).toNatClampNeg else σ 15 d) σ (if a1 = 1 then kT (kT τ 10) 1 else if a1 = 2 then kT (kT τ 100) 1 else if a1 = 3 then kT (kT (kT τ 1000) 10) 1 else if a1 = 4 then kT (kT (kT τ 10000) 100) 1 else if a1 = 5 then kT (kT τ 100000) 1 else kT τ 1) := by
  refine gMet_of (by decide) (Nat.le_of_ble_eq_true rfl) ?_
  intro p e s m args below meth c C hr hlk ls hl hW
  have hx := C.1
  have hb := C.2.1
  have hl : lv_has ls 4 [(0, .ref (gAd G 83)), (1, .int a1), (2, .ref (gAd G 9)), (3, .int a0)] := hl
  refine lv_iload_n hx hb dX5_as_0 rfl (lv_at hl 1 rfl) ?_
  by_cases c_1 : a1 = 1
  · skip
    refine lv_tableIn (tgt := 36) (off := 35) hx hb dX5_as_1 (by rw [c_1]; decide) (by rw [c_1]; decide) (by rw [c_1]; rfl) (by decide) ?_
    refine lv_aload_n hx hb dX5_as_36 rfl (lv_at hl 0 rfl) ?_
    refine lv_aload_n hx hb dX5_as_37 rfl (lv_at hl 2 rfl) ?_
    refine lv_iload_n hx hb dX5_as_38 rfl (lv_at hl 3 rfl) ?_
    refine g_callvI (r := σ 15 d + σ 13 d) (σ' := σ) (τ' := kT (kT τ 10) 1) (rest := []) (As := [.ref (gAd G 9), .int a0]) C hW kv_X5_7 83 (by decide) (gL_5 rfl) rfl (k_asWatch l G σ τ a0 d hd hd8) ⟨Nat.le_of_ble_eq_true rfl, Nat.le_of_ble_eq_true rfl⟩ ⟨Nat.le_refl _, Nat.le_refl _⟩ rfl hl.1 rfl (Nat.le_of_ble_eq_true rfl) dX5_as_39 (fun H locs hW => ?_)
    exact g_iret C hr hlk hW dX5_as_42 (by rw [if_pos c_1]) (rfl) (by rw [if_pos c_1])
  by_cases c_2 : a1 = 2
  · skip
    refine lv_tableIn (tgt := 43) (off := 42) hx hb dX5_as_1 (by rw [c_2]; decide) (by rw [c_2]; decide) (by rw [c_2]; rfl) (by decide) ?_
    refine lv_aload_n hx hb dX5_as_43 rfl (lv_at hl 0 rfl) ?_
    refine lv_aload_n hx hb dX5_as_44 rfl (lv_at hl 2 rfl) ?_
    refine lv_iload_n hx hb dX5_as_45 rfl (lv_at hl 3 rfl) ?_
    refine g_callvI (r := (if kBit (σ 16 1) a0 = 1 then σ 15 d - 7 else σ 15 d)) (σ' := σ) (τ' := kT (kT τ 100) 1) (rest := []) (As := [.ref (gAd G 9), .int a0]) C hW kv_X5_13 83 (by decide) (gL_5 rfl) rfl (k_asSchool l G σ τ a0 d hd hd8) ⟨Nat.le_of_ble_eq_true rfl, Nat.le_of_ble_eq_true rfl⟩ ⟨Nat.le_refl _, Nat.le_refl _⟩ rfl hl.1 rfl (Nat.le_of_ble_eq_true rfl) dX5_as_46 (fun H locs hW => ?_)
    exact g_iret C hr hlk hW dX5_as_49 (by rw [if_neg c_1, if_pos c_2]) (rfl) (by rw [if_neg c_1, if_pos c_2])
  by_cases c_3 : a1 = 3
  · skip
    refine lv_tableIn (tgt := 50) (off := 49) hx hb dX5_as_1 (by rw [c_3]; decide) (by rw [c_3]; decide) (by rw [c_3]; rfl) (by decide) ?_
    refine lv_aload_n hx hb dX5_as_50 rfl (lv_at hl 0 rfl) ?_
    refine lv_aload_n hx hb dX5_as_51 rfl (lv_at hl 2 rfl) ?_
    refine lv_iload_n hx hb dX5_as_52 rfl (lv_at hl 3 rfl) ?_
    refine g_callvI (r := 2 * (σ 15 d + σ 13 d)) (σ' := σ) (τ' := kT (kT (kT τ 1000) 10) 1) (rest := []) (As := [.ref (gAd G 9), .int a0]) C hW kv_X5_16 83 (by decide) (gL_5 rfl) rfl (k_asChurch l G σ τ a0 d hd hd8) ⟨Nat.le_of_ble_eq_true rfl, Nat.le_of_ble_eq_true rfl⟩ ⟨Nat.le_refl _, Nat.le_refl _⟩ rfl hl.1 rfl (Nat.le_of_ble_eq_true rfl) dX5_as_53 (fun H locs hW => ?_)
    exact g_iret C hr hlk hW dX5_as_56 (by rw [if_neg c_1, if_neg c_2, if_pos c_3]) (rfl) (by rw [if_neg c_1, if_neg c_2, if_pos c_3])
  by_cases c_4 : a1 = 4
  · skip
    refine lv_tableIn (tgt := 57) (off := 56) hx hb dX5_as_1 (by rw [c_4]; decide) (by rw [c_4]; decide) (by rw [c_4]; rfl) (by decide) ?_
    refine lv_aload_n hx hb dX5_as_57 rfl (lv_at hl 0 rfl) ?_
    refine lv_aload_n hx hb dX5_as_58 rfl (lv_at hl 2 rfl) ?_
    refine lv_iload_n hx hb dX5_as_59 rfl (lv_at hl 3 rfl) ?_
    refine g_callvI (r := (if kBit (σ 16 1) a0 = 1 then σ 15 d - 7 else σ 15 d) + a0) (σ' := σ) (τ' := kT (kT (kT τ 10000) 100) 1) (rest := []) (As := [.ref (gAd G 9), .int a0]) C hW kv_X5_19 83 (by decide) (gL_5 rfl) rfl (k_asHearth l G σ τ a0 d hd hd8) ⟨Nat.le_of_ble_eq_true rfl, Nat.le_of_ble_eq_true rfl⟩ ⟨Nat.le_refl _, Nat.le_refl _⟩ rfl hl.1 rfl (Nat.le_of_ble_eq_true rfl) dX5_as_60 (fun H locs hW => ?_)
    exact g_iret C hr hlk hW dX5_as_63 (by rw [if_neg c_1, if_neg c_2, if_neg c_3, if_pos c_4]) (rfl) (by rw [if_neg c_1, if_neg c_2, if_neg c_3, if_pos c_4])
  by_cases c_5 : a1 = 5
  · skip
    refine lv_tableIn (tgt := 64) (off := 63) hx hb dX5_as_1 (by rw [c_5]; decide) (by rw [c_5]; decide) (by rw [c_5]; rfl) (by decide) ?_
    refine lv_aload_n hx hb dX5_as_64 rfl (lv_at hl 0 rfl) ?_
    refine lv_aload_n hx hb dX5_as_65 rfl (lv_at hl 2 rfl) ?_
    refine lv_iload_n hx hb dX5_as_66 rfl (lv_at hl 3 rfl) ?_
    refine g_callvI (r := σ 15 d + σ 19 (σ 20 d).toNatClampNeg) (σ' := σ) (τ' := kT (kT τ 100000) 1) (rest := []) (As := [.ref (gAd G 9), .int a0]) C hW kv_X5_22 83 (by decide) (gL_5 rfl) rfl (k_asMarket l G σ τ a0 d hd hd8 how) ⟨Nat.le_of_ble_eq_true rfl, Nat.le_of_ble_eq_true rfl⟩ ⟨Nat.le_refl _, Nat.le_refl _⟩ rfl hl.1 rfl (Nat.le_of_ble_eq_true rfl) dX5_as_67 (fun H locs hW => ?_)
    exact g_iret C hr hlk hW dX5_as_70 (by rw [if_neg c_1, if_neg c_2, if_neg c_3, if_neg c_4, if_pos c_5]) (rfl) (by rw [if_neg c_1, if_neg c_2, if_neg c_3, if_neg c_4, if_pos c_5])
  refine lv_tableOut (tgt := 71) hx hb dX5_as_1 (by have t_c_1 := lv_neT c_1 (a := 1) (by decide); have t_c_2 := lv_neT c_2 (a := 2) (by decide); have t_c_3 := lv_neT c_3 (a := 3) (by decide); have t_c_4 := lv_neT c_4 (a := 4) (by decide); have t_c_5 := lv_neT c_5 (a := 5) (by decide); omega) (by decide) ?_
  refine lv_aload_n hx hb dX5_as_71 rfl (lv_at hl 0 rfl) ?_
  refine lv_aload_n hx hb dX5_as_72 rfl (lv_at hl 2 rfl) ?_
  refine lv_iload_n hx hb dX5_as_73 rfl (lv_at hl 3 rfl) ?_
  refine g_callvI (r := σ 15 d) (σ' := σ) (τ' := kT τ 1) (rest := []) (As := [.ref (gAd G 9), .int a0]) C hW kv_X5_25 83 (by decide) (gL_5 rfl) rfl (k_asDuty l G σ τ a0 d hd hd8) ⟨Nat.le_of_ble_eq_true rfl, Nat.le_of_ble_eq_true rfl⟩ ⟨Nat.le_refl _, Nat.le_refl _⟩ rfl hl.1 rfl (Nat.le_of_ble_eq_true rfl) dX5_as_74 (fun H locs hW => ?_)
  exact g_iret C hr hlk hW dX5_as_77 (by rw [if_neg c_1, if_neg c_2, if_neg c_3, if_neg c_4, if_neg c_5]) (rfl) (by rw [if_neg c_1, if_neg c_2, if_neg c_3, if_neg c_4, if_neg c_5])
set_option maxHeartbeats 4000000 in
set_option maxRecDepth 100000 in
theorem k_gd (l : Launch) (G : gG) (σ : gSt) (τ : Nat → Int64) (a0 a1 : Int32) (a b : Nat) (ha : a0 = nI a) (hb_ : a1 = nI b) (ha1 : 1 ≤ a) (ha2 : a ≤ 100000000) (hba : b ≤ a) : gI l yX9_greatestDivisor cX9_greatestDivisor 6 (some .int) 1 21 G [.int a0, .int a1] σ τ (nI (Nat.gcd a b)) σ τ := by
  refine gMet_of (by decide) (Nat.le_of_ble_eq_true rfl) ?_
  intro p e s m args below meth c C hr hlk ls hl hW
  have hx := C.1
  have hb := C.2.1
  have hl : lv_has ls 6 [(0, .int a0), (1, .int a1)] := hl
  rw [ha, hb_] at hl
  refine lv_iconst (v := 1) hx hb dX9_greatestDivisor_0 (by decide) ?_
  refine lv_iload_n hx hb dX9_greatestDivisor_1 rfl (lv_at hl 0 rfl) ?_
  refine g_max C hl.1 kml_X9_273 (Nat.le_of_ble_eq_true rfl) (Nat.le_of_ble_eq_true rfl) (Nat.le_refl _) (Nat.le_refl _) dX9_greatestDivisor_2 ?_
  rw [kmax1 ha1 (by omega)]
  refine lv_istore_n (lv' := [(2, .int (nI a)), (0, .int (nI a)), (1, .int (nI b))]) hx hb dX9_greatestDivisor_5 rfl hl (by decide) rfl (fun ls hl => ?_)
  refine lv_iload_n hx hb dX9_greatestDivisor_6 rfl (lv_at hl 2 rfl) ?_
  refine lv_istore_n (lv' := [(3, .int (nI b)), (2, .int (nI a)), (0, .int (nI a)), (1, .int (nI b))]) hx hb dX9_greatestDivisor_7 rfl hl (by decide) rfl (fun ls hl => ?_)
  refine lv_iconst (v := 0) hx hb dX9_greatestDivisor_8 (by decide) ?_
  refine lv_istore (lv' := [(4, .int 0), (3, .int (nI b)), (2, .int (nI a)), (0, .int (nI a)), (1, .int (nI b))]) hx hb dX9_greatestDivisor_9 hl (by decide) rfl (fun ls hl => ?_)
  have L11 : ∀ (n : Nat) (i : Nat) (x_ : Nat) (y_ : Nat) (H : Heap) (locs : List Loc) (ls : Array Slot), n + i = 100 → (Nat.gcd x_ y_ = Nat.gcd a b) → (y_ ≤ x_) → (0 < x_) → (x_ ≤ 100000000) → (x_ * y_ < 2 ^ n) → gW G s σ τ H locs → lv_has ls 6 [(4, .int (nI i)), (3, .int (nI y_)), (2, .int (nI x_)), (0, .int (nI a)), (1, .int (nI b))] → W p l e (gRm 1 21) s m args below meth c H locs 0 0 (MQ below (gQi G (nI (Nat.gcd a b)) σ τ) args s 0 0 (gA G)) (F0 m 11 ls []) := by
    intro n
    induction n with
    | zero =>
      intro i x_ y_ H locs ls hm hg hyx hx0 hx9 hpw hW hl
      refine lv_iload hx hb dX9_greatestDivisor_11 (lv_at hl 0 rfl) ?_
      refine lv_bipush (v := 100) hx hb dX9_greatestDivisor_13 (by decide) ?_
      refine lv_icmp_ge (tgt := 38) hx hb dX9_greatestDivisor_15 (by decide) (fun _ => ?_) (fun zz => absurd (show nI 100 ≤ nI i from nI_le (by omega) (by omega)) zz)
      refine lv_iload_n hx hb dX9_greatestDivisor_38 rfl (lv_at hl 2 rfl) ?_
      exact g_iret C hr hlk hW dX9_greatestDivisor_39 (by have hy : y_ = 0 := (by rcases Nat.eq_zero_or_pos y_ with q | q; exact q; have z := Nat.mul_pos hx0 q; rw [Nat.pow_zero] at hpw; omega); rw [← hg, hy, Nat.gcd_zero_right]) (rfl) (rfl)
    | succ n ih11 =>
      intro i x_ y_ H locs ls hm hg hyx hx0 hx9 hpw hW hl
      refine lv_iload hx hb dX9_greatestDivisor_11 (lv_at hl 0 rfl) ?_
      refine lv_bipush (v := 100) hx hb dX9_greatestDivisor_13 (by decide) ?_
      refine lv_icmp_ge (tgt := 38) hx hb dX9_greatestDivisor_15 (by decide) (fun zz => absurd zz (show ¬ nI 100 ≤ nI i from nI_ge (by omega) (by omega))) (fun _ => ?_)
      refine lv_iload_n hx hb dX9_greatestDivisor_18 rfl (lv_at hl 1 rfl) ?_
      refine lv_if_le (tgt := 38) hx hb dX9_greatestDivisor_19 (by decide) (fun c_1 => ?_) (fun c_1 => ?_)
      · skip
        replace c_1 : y_ ≤ 0 := (nI_leI (a := y_) (b := 0) (by omega) (by omega)).mp c_1
        refine lv_iload_n hx hb dX9_greatestDivisor_38 rfl (lv_at hl 2 rfl) ?_
        exact g_iret C hr hlk hW dX9_greatestDivisor_39 (by have hy : y_ = 0 := (by omega); rw [← hg, hy, Nat.gcd_zero_right]) (rfl) (rfl)
      · skip
        replace c_1 : 0 < y_ := Nat.not_le.mp (mt (nI_leI (a := y_) (b := 0) (by omega) (by omega)).mpr c_1)
        refine lv_iload_n hx hb dX9_greatestDivisor_22 rfl (lv_at hl 2 rfl) ?_
        refine lv_iload_n hx hb dX9_greatestDivisor_23 rfl (lv_at hl 1 rfl) ?_
        refine lv_irem hx hb dX9_greatestDivisor_24 (nI_ne0 (by omega) (by omega)) ?_
        rw [pk_rem (a := x_) (d := y_) (by omega) (by omega) (by omega)]
        refine lv_istore (lv' := [(5, .int (nI (x_ % y_))), (4, .int (nI i)), (3, .int (nI y_)), (2, .int (nI x_)), (0, .int (nI a)), (1, .int (nI b))]) hx hb dX9_greatestDivisor_25 hl (by decide) rfl (fun ls hl => ?_)
        refine lv_iload_n hx hb dX9_greatestDivisor_27 rfl (lv_at hl 2 rfl) ?_
        refine lv_istore_n (lv' := [(2, .int (nI y_)), (5, .int (nI (x_ % y_))), (4, .int (nI i)), (3, .int (nI y_)), (0, .int (nI a)), (1, .int (nI b))]) hx hb dX9_greatestDivisor_28 rfl hl (by decide) rfl (fun ls hl => ?_)
        refine lv_iload hx hb dX9_greatestDivisor_29 (lv_at hl 1 rfl) ?_
        refine lv_istore_n (lv' := [(3, .int (nI (x_ % y_))), (2, .int (nI y_)), (5, .int (nI (x_ % y_))), (4, .int (nI i)), (0, .int (nI a)), (1, .int (nI b))]) hx hb dX9_greatestDivisor_31 rfl hl (by decide) rfl (fun ls hl => ?_)
        refine lv_iinc (v := nI (i + 1)) (lv' := [(4, .int (nI (i + 1))), (3, .int (nI (x_ % y_))), (2, .int (nI y_)), (5, .int (nI (x_ % y_))), (0, .int (nI a)), (1, .int (nI b))]) hx hb dX9_greatestDivisor_32 hl (k := 3) rfl (nI_1 _) (by decide) rfl (fun ls hl => ?_)
        refine lv_goto (tgt := 11) hx hb dX9_greatestDivisor_35 (by decide) ?_
        exact ih11 (i + 1) y_ (x_ % y_) _ _ _ (by omega) (by rw [← hg, Nat.gcd_comm y_, ← Nat.gcd_rec, Nat.gcd_comm]) (Nat.le_of_lt (Nat.mod_lt _ (by omega))) (by omega) (by omega) (by have q := half_mod (x := x_) (y := y_) (by omega) hyx; rw [Nat.pow_succ] at hpw; omega) hW (lv_sub hl [0, 1, 2, 4, 5] rfl)
  exact L11 100 0 a b _ _ _ (by omega) rfl hba ha1 ha2 (Nat.lt_of_le_of_lt (Nat.mul_le_mul ha2 (Nat.le_trans hba ha2)) (by decide)) hW (lv_sub hl [0, 1, 2, 3, 4] rfl)
