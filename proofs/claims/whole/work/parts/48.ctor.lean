/-! ===== the constructors ===== -/
def bMom (G : gG) (a b c d e : Nat) : va_W := [(a, .inr (3, [.int 0, .int 0, .ref b, .ref c, .ref d, .ref e])), (b, .inl (G.2.1.1, 5, .inl (fun _ => 0))), (c, .inl (G.2.1.1, 5, .inl (fun _ => 0))), (d, .inl (G.2.1.1, 5, .inl (fun _ => 0))), (e, .inl (G.2.1.1, 8, .inl (fun _ => 0)))]
def bPlan (G : gG) (a b c d e f : Nat) : va_W := [(a, .inr (4, [.int 2, .int 0, .int 0, .int 2, .int 3, .ref b, .ref c, .ref d, .ref e, .ref f])), (b, .inl (G.2.1.1, 5, .inl (fun _ => 0))), (c, .inl (G.2.1.1, 8, .inl (fun _ => 0))), (d, .inl (G.2.1.1, 8, .inl (fun _ => 0))), (e, .inl (G.2.1.1, 8, .inl (fun _ => 0))), (f, .inl (G.2.1.1, 8, .inl (fun _ => 0)))]
def bMoms (G : gG) (c : Nat → Nat → Nat) : Nat → va_W
  | 0 => []
  | i + 1 => bMoms G c i ++ bMom G (c i 0) (c i 1) (c i 2) (c i 3) (c i 4)
def qoF (c : Nat → Nat → Nat) (i : Nat) : Nat → Option Nat := fun j => if j < i then some (c j 0) else none
abbrev aQ (G : gG) (n : Nat) (f : Nat → Option Nat) : va_E := .inl (G.2.1.2.2, n, .inr (.inr (.inr (.inr f))))
theorem bMoms_cg {G : gG} {c c' : Nat → Nat → Nat} : ∀ i, (∀ j, j < i → c' j = c j) → bMoms G c' i = bMoms G c i
  | 0, _ => rfl
  | i + 1, h => by rw [bMoms, bMoms, bMoms_cg i (fun j hj => h j (by omega)), h i (by omega)]
theorem qoF_up {c c' : Nat → Nat → Nat} {i q : Nat} (h : ∀ j, j < i → c' j = c j) (hq : c' i 0 = q) : va_up (qoF c i) i (some q) = qoF c' (i + 1) := by
  funext j
  unfold va_up qoF
  by_cases e : j = i
  · subst e; rw [if_pos rfl, if_pos (by omega), hq]
  · rw [if_neg e]
    by_cases e2 : j < i
    · rw [if_pos e2, if_pos (by omega), h j e2]
    · rw [if_neg e2, if_neg (by omega)]
theorem qoF_0 (c : Nat → Nat → Nat) : (fun _ => none) = qoF c 0 := by
  funext j; unfold qoF; rw [if_neg (by omega)]
def bHeard (G : gG) (a b c d : Nat) : va_W := [(a, .inr (1, [.int 0, .ref b, .ref c, .ref d])), (b, .inl (G.2.1.1, 6, .inl (fun _ => 0))), (c, .inl (G.2.1.1, 6, .inl (fun _ => 0))), (d, .inl (G.2.1.1, 6, .inl (fun _ => 0)))]
def bWays (G : gG) (a b c d : Nat) : va_W := [(a, .inr (8, [.ref b, .ref c, .ref d])), (b, .inl (G.2.1.1, 240, .inl (fun _ => 0))), (c, .inl (G.2.1.1, 241, .inl (fun _ => 0))), (d, .inl (G.2.1.1, 1446, .inl (fun _ => 0)))]
def bSil (G : gG) (a b : Nat) : va_W := [(a, .inr (7, [.ref b, .int 0])), (b, .inl (G.2.1.1, 240, .inl (fun _ => 0)))]
def bRates (a : Nat) : va_W := [(a, .inr (5, [.long 0]))]
def bReader (G : gG) (a b c d e f g h : Nat) : va_W := [(a, .inr (6, [.ref b, .int 0, .ref c, .int (-9), .int 0, .int 0, .int 0, .int 0, .int 0, .int 0])), (b, .inl (G.2.1.1, 200, .inl (fun _ => 0)))] ++ bPlan G c d e f g h
def bDay (G : gG) (a b c d e f g h i j k l : Nat) : va_W := [(a, .inr (0, [.ref b, .ref h]))] ++ bPlan G b c d e f g ++ bMom G h i j k l
def bHist (G : gG) (a b : Nat) (c : Nat → Nat → Nat) : va_W := [(a, .inr (2, [.ref b, .int 0, .int 0]))] ++ ([(b, aQ G 10 (qoF c 10))] ++ bMoms G c 10)
set_option maxHeartbeats 4000000 in
set_option maxRecDepth 100000 in
theorem n_X3 (l : Launch) (G : gG) (wr : va_W) (b : Nat) : nV l yX3_init cX3_init 1 1 20 4 23 G wr b [(b, .inr (3, [.int 0, .int 0, .null, .null, .null, .null]))] (fun nl => ∃ q1 q2 q3 q4, nl = bMom G b q1 q2 q3 q4) := by
  refine nMet_of (by decide) (Nat.le_of_ble_eq_true rfl) ?_
  intro p e s m args below meth c C hX hA hr hlk hnm ls hl hW
  have hx := C.1
  have hb := C.2.1
  have hnm : meth.name = "<init>" := hnm
  have hl : lv_has ls 1 [(0, .ref b)] := hl
  refine lv_aload_n hx hb dX3_init_0 rfl (lv_at hl 0 rfl) ?_
  refine n_obj C hl.1 kml_X3_3 (Nat.le_of_ble_eq_true rfl) (Nat.le_of_ble_eq_true rfl) dX3_init_1 ?_
  refine lv_aload_n hx hb dX3_init_4 rfl (lv_at hl 0 rfl) ?_
  refine lv_iconst (v := nI 5) hx hb dX3_init_5 (by decide) ?_
  refine n_newI (N' := 5) C hA hW rfl (by decide) (Nat.le_of_ble_eq_true rfl) (Nat.le_of_ble_eq_true rfl) dX3_init_6 (fun q1 H hW => ?_)
  have hW : nW G s wr ([(b, .inr (3, [.int 0, .int 0, .null, .null, .null, .null])), (q1, .inl (G.2.1.1, 5, .inl (fun _ => 0)))]) _ _ := hW
  refine n_putF (ci := 3) (v := .ref q1) (ty := (.array .int)) (q0 := 0) C hnm hW rfl rfl kin_X3 tyX3 tyX3_ok nmX3 2 (by decide) rfl rfl kf_X3_9 rfl (by decide +kernel) rfl rfl (Nat.le_of_ble_eq_true rfl) dX3_init_8 (fun H locs hW => ?_)
  have hW : nW G s wr ([(b, .inr (3, [.int 0, .int 0, .ref q1, .null, .null, .null])), (q1, .inl (G.2.1.1, 5, .inl (fun _ => 0)))]) _ _ := hW
  refine lv_aload_n hx hb dX3_init_11 rfl (lv_at hl 0 rfl) ?_
  refine lv_iconst (v := nI 5) hx hb dX3_init_12 (by decide) ?_
  refine n_newI (N' := 5) C hA hW rfl (by decide) (Nat.le_of_ble_eq_true rfl) (Nat.le_of_ble_eq_true rfl) dX3_init_13 (fun q2 H hW => ?_)
  have hW : nW G s wr ([(b, .inr (3, [.int 0, .int 0, .ref q1, .null, .null, .null])), (q1, .inl (G.2.1.1, 5, .inl (fun _ => 0))), (q2, .inl (G.2.1.1, 5, .inl (fun _ => 0)))]) _ _ := hW
  refine n_putF (ci := 3) (v := .ref q2) (ty := (.array .int)) (q0 := 0) C hnm hW rfl rfl kin_X3 tyX3 tyX3_ok nmX3 3 (by decide) rfl rfl kf_X3_15 rfl (by decide +kernel) rfl rfl (Nat.le_of_ble_eq_true rfl) dX3_init_15 (fun H locs hW => ?_)
  have hW : nW G s wr ([(b, .inr (3, [.int 0, .int 0, .ref q1, .ref q2, .null, .null])), (q1, .inl (G.2.1.1, 5, .inl (fun _ => 0))), (q2, .inl (G.2.1.1, 5, .inl (fun _ => 0)))]) _ _ := hW
  refine lv_aload_n hx hb dX3_init_18 rfl (lv_at hl 0 rfl) ?_
  refine lv_iconst (v := nI 5) hx hb dX3_init_19 (by decide) ?_
  refine n_newI (N' := 5) C hA hW rfl (by decide) (Nat.le_of_ble_eq_true rfl) (Nat.le_of_ble_eq_true rfl) dX3_init_20 (fun q3 H hW => ?_)
  have hW : nW G s wr ([(b, .inr (3, [.int 0, .int 0, .ref q1, .ref q2, .null, .null])), (q1, .inl (G.2.1.1, 5, .inl (fun _ => 0))), (q2, .inl (G.2.1.1, 5, .inl (fun _ => 0))), (q3, .inl (G.2.1.1, 5, .inl (fun _ => 0)))]) _ _ := hW
  refine n_putF (ci := 3) (v := .ref q3) (ty := (.array .int)) (q0 := 0) C hnm hW rfl rfl kin_X3 tyX3 tyX3_ok nmX3 4 (by decide) rfl rfl kf_X3_18 rfl (by decide +kernel) rfl rfl (Nat.le_of_ble_eq_true rfl) dX3_init_22 (fun H locs hW => ?_)
  have hW : nW G s wr ([(b, .inr (3, [.int 0, .int 0, .ref q1, .ref q2, .ref q3, .null])), (q1, .inl (G.2.1.1, 5, .inl (fun _ => 0))), (q2, .inl (G.2.1.1, 5, .inl (fun _ => 0))), (q3, .inl (G.2.1.1, 5, .inl (fun _ => 0)))]) _ _ := hW
  refine lv_aload_n hx hb dX3_init_25 rfl (lv_at hl 0 rfl) ?_
  refine lv_bipush (v := nI 8) hx hb dX3_init_26 (by decide) ?_
  refine n_newI (N' := 8) C hA hW rfl (by decide) (Nat.le_of_ble_eq_true rfl) (Nat.le_of_ble_eq_true rfl) dX3_init_28 (fun q4 H hW => ?_)
  have hW : nW G s wr ([(b, .inr (3, [.int 0, .int 0, .ref q1, .ref q2, .ref q3, .null])), (q1, .inl (G.2.1.1, 5, .inl (fun _ => 0))), (q2, .inl (G.2.1.1, 5, .inl (fun _ => 0))), (q3, .inl (G.2.1.1, 5, .inl (fun _ => 0))), (q4, .inl (G.2.1.1, 8, .inl (fun _ => 0)))]) _ _ := hW
  refine n_putF (ci := 3) (v := .ref q4) (ty := (.array .int)) (q0 := 0) C hnm hW rfl rfl kin_X3 tyX3 tyX3_ok nmX3 5 (by decide) rfl rfl kf_X3_21 rfl (by decide +kernel) rfl rfl (Nat.le_of_ble_eq_true rfl) dX3_init_30 (fun H locs hW => ?_)
  have hW : nW G s wr ([(b, .inr (3, [.int 0, .int 0, .ref q1, .ref q2, .ref q3, .ref q4])), (q1, .inl (G.2.1.1, 5, .inl (fun _ => 0))), (q2, .inl (G.2.1.1, 5, .inl (fun _ => 0))), (q3, .inl (G.2.1.1, 5, .inl (fun _ => 0))), (q4, .inl (G.2.1.1, 8, .inl (fun _ => 0)))]) _ _ := hW
  exact n_ret C hX hA hr hlk hW ⟨q1, q2, q3, q4, rfl⟩ (Nat.le_of_ble_eq_true rfl) (Nat.le_of_ble_eq_true rfl) dX3_init_33
set_option maxHeartbeats 4000000 in
set_option maxRecDepth 100000 in
theorem n_X4 (l : Launch) (G : gG) (wr : va_W) (b : Nat) : nV l yX4_init cX4_init 1 1 20 5 37 G wr b [(b, .inr (4, [.int 0, .int 0, .int 0, .int 0, .int 0, .null, .null, .null, .null, .null]))] (fun nl => ∃ q1 q2 q3 q4 q5, nl = bPlan G b q1 q2 q3 q4 q5) := by
  refine nMet_of (by decide) (Nat.le_of_ble_eq_true rfl) ?_
  intro p e s m args below meth c C hX hA hr hlk hnm ls hl hW
  have hx := C.1
  have hb := C.2.1
  have hnm : meth.name = "<init>" := hnm
  have hl : lv_has ls 1 [(0, .ref b)] := hl
  refine lv_aload_n hx hb dX4_init_0 rfl (lv_at hl 0 rfl) ?_
  refine n_obj C hl.1 kml_X4_3 (Nat.le_of_ble_eq_true rfl) (Nat.le_of_ble_eq_true rfl) dX4_init_1 ?_
  refine lv_aload_n hx hb dX4_init_4 rfl (lv_at hl 0 rfl) ?_
  refine lv_iconst (v := nI 2) hx hb dX4_init_5 (by decide) ?_
  refine n_put (ci := 4) (v := .int (nI 2)) (ty := .int) (q0 := 0) C hW rfl rfl kin_X4 tyX4 tyX4_ok nmX4 0 (by decide) rfl kf_X4_9 rfl (by decide +kernel) rfl rfl (Nat.le_of_ble_eq_true rfl) dX4_init_6 (fun H locs hW => ?_)
  have hW : nW G s wr ([(b, .inr (4, [.int 2, .int 0, .int 0, .int 0, .int 0, .null, .null, .null, .null, .null]))]) _ _ := hW
  refine lv_aload_n hx hb dX4_init_9 rfl (lv_at hl 0 rfl) ?_
  refine lv_iconst (v := nI 2) hx hb dX4_init_10 (by decide) ?_
  refine n_put (ci := 4) (v := .int (nI 2)) (ty := .int) (q0 := 0) C hW rfl rfl kin_X4 tyX4 tyX4_ok nmX4 3 (by decide) rfl kf_X4_15 rfl (by decide +kernel) rfl rfl (Nat.le_of_ble_eq_true rfl) dX4_init_11 (fun H locs hW => ?_)
  have hW : nW G s wr ([(b, .inr (4, [.int 2, .int 0, .int 0, .int 2, .int 0, .null, .null, .null, .null, .null]))]) _ _ := hW
  refine lv_aload_n hx hb dX4_init_14 rfl (lv_at hl 0 rfl) ?_
  refine lv_iconst (v := nI 3) hx hb dX4_init_15 (by decide) ?_
  refine n_put (ci := 4) (v := .int (nI 3)) (ty := .int) (q0 := 0) C hW rfl rfl kin_X4 tyX4 tyX4_ok nmX4 4 (by decide) rfl kf_X4_18 rfl (by decide +kernel) rfl rfl (Nat.le_of_ble_eq_true rfl) dX4_init_16 (fun H locs hW => ?_)
  have hW : nW G s wr ([(b, .inr (4, [.int 2, .int 0, .int 0, .int 2, .int 3, .null, .null, .null, .null, .null]))]) _ _ := hW
  refine lv_aload_n hx hb dX4_init_19 rfl (lv_at hl 0 rfl) ?_
  refine lv_iconst (v := nI 5) hx hb dX4_init_20 (by decide) ?_
  refine n_newI (N' := 5) C hA hW rfl (by decide) (Nat.le_of_ble_eq_true rfl) (Nat.le_of_ble_eq_true rfl) dX4_init_21 (fun q1 H hW => ?_)
  have hW : nW G s wr ([(b, .inr (4, [.int 2, .int 0, .int 0, .int 2, .int 3, .null, .null, .null, .null, .null])), (q1, .inl (G.2.1.1, 5, .inl (fun _ => 0)))]) _ _ := hW
  refine n_putF (ci := 4) (v := .ref q1) (ty := (.array .int)) (q0 := 0) C hnm hW rfl rfl kin_X4 tyX4 tyX4_ok nmX4 5 (by decide) rfl rfl kf_X4_21 rfl (by decide +kernel) rfl rfl (Nat.le_of_ble_eq_true rfl) dX4_init_23 (fun H locs hW => ?_)
  have hW : nW G s wr ([(b, .inr (4, [.int 2, .int 0, .int 0, .int 2, .int 3, .ref q1, .null, .null, .null, .null])), (q1, .inl (G.2.1.1, 5, .inl (fun _ => 0)))]) _ _ := hW
  refine lv_aload_n hx hb dX4_init_26 rfl (lv_at hl 0 rfl) ?_
  refine lv_bipush (v := nI 8) hx hb dX4_init_27 (by decide) ?_
  refine n_newI (N' := 8) C hA hW rfl (by decide) (Nat.le_of_ble_eq_true rfl) (Nat.le_of_ble_eq_true rfl) dX4_init_29 (fun q2 H hW => ?_)
  have hW : nW G s wr ([(b, .inr (4, [.int 2, .int 0, .int 0, .int 2, .int 3, .ref q1, .null, .null, .null, .null])), (q1, .inl (G.2.1.1, 5, .inl (fun _ => 0))), (q2, .inl (G.2.1.1, 8, .inl (fun _ => 0)))]) _ _ := hW
  refine n_putF (ci := 4) (v := .ref q2) (ty := (.array .int)) (q0 := 0) C hnm hW rfl rfl kin_X4 tyX4 tyX4_ok nmX4 6 (by decide) rfl rfl kf_X4_25 rfl (by decide +kernel) rfl rfl (Nat.le_of_ble_eq_true rfl) dX4_init_31 (fun H locs hW => ?_)
  have hW : nW G s wr ([(b, .inr (4, [.int 2, .int 0, .int 0, .int 2, .int 3, .ref q1, .ref q2, .null, .null, .null])), (q1, .inl (G.2.1.1, 5, .inl (fun _ => 0))), (q2, .inl (G.2.1.1, 8, .inl (fun _ => 0)))]) _ _ := hW
  refine lv_aload_n hx hb dX4_init_34 rfl (lv_at hl 0 rfl) ?_
  refine lv_bipush (v := nI 8) hx hb dX4_init_35 (by decide) ?_
  refine n_newI (N' := 8) C hA hW rfl (by decide) (Nat.le_of_ble_eq_true rfl) (Nat.le_of_ble_eq_true rfl) dX4_init_37 (fun q3 H hW => ?_)
  have hW : nW G s wr ([(b, .inr (4, [.int 2, .int 0, .int 0, .int 2, .int 3, .ref q1, .ref q2, .null, .null, .null])), (q1, .inl (G.2.1.1, 5, .inl (fun _ => 0))), (q2, .inl (G.2.1.1, 8, .inl (fun _ => 0))), (q3, .inl (G.2.1.1, 8, .inl (fun _ => 0)))]) _ _ := hW
  refine n_putF (ci := 4) (v := .ref q3) (ty := (.array .int)) (q0 := 0) C hnm hW rfl rfl kin_X4 tyX4 tyX4_ok nmX4 7 (by decide) rfl rfl kf_X4_28 rfl (by decide +kernel) rfl rfl (Nat.le_of_ble_eq_true rfl) dX4_init_39 (fun H locs hW => ?_)
  have hW : nW G s wr ([(b, .inr (4, [.int 2, .int 0, .int 0, .int 2, .int 3, .ref q1, .ref q2, .ref q3, .null, .null])), (q1, .inl (G.2.1.1, 5, .inl (fun _ => 0))), (q2, .inl (G.2.1.1, 8, .inl (fun _ => 0))), (q3, .inl (G.2.1.1, 8, .inl (fun _ => 0)))]) _ _ := hW
  refine lv_aload_n hx hb dX4_init_42 rfl (lv_at hl 0 rfl) ?_
  refine lv_bipush (v := nI 8) hx hb dX4_init_43 (by decide) ?_
  refine n_newI (N' := 8) C hA hW rfl (by decide) (Nat.le_of_ble_eq_true rfl) (Nat.le_of_ble_eq_true rfl) dX4_init_45 (fun q4 H hW => ?_)
  have hW : nW G s wr ([(b, .inr (4, [.int 2, .int 0, .int 0, .int 2, .int 3, .ref q1, .ref q2, .ref q3, .null, .null])), (q1, .inl (G.2.1.1, 5, .inl (fun _ => 0))), (q2, .inl (G.2.1.1, 8, .inl (fun _ => 0))), (q3, .inl (G.2.1.1, 8, .inl (fun _ => 0))), (q4, .inl (G.2.1.1, 8, .inl (fun _ => 0)))]) _ _ := hW
  refine n_putF (ci := 4) (v := .ref q4) (ty := (.array .int)) (q0 := 0) C hnm hW rfl rfl kin_X4 tyX4 tyX4_ok nmX4 8 (by decide) rfl rfl kf_X4_31 rfl (by decide +kernel) rfl rfl (Nat.le_of_ble_eq_true rfl) dX4_init_47 (fun H locs hW => ?_)
  have hW : nW G s wr ([(b, .inr (4, [.int 2, .int 0, .int 0, .int 2, .int 3, .ref q1, .ref q2, .ref q3, .ref q4, .null])), (q1, .inl (G.2.1.1, 5, .inl (fun _ => 0))), (q2, .inl (G.2.1.1, 8, .inl (fun _ => 0))), (q3, .inl (G.2.1.1, 8, .inl (fun _ => 0))), (q4, .inl (G.2.1.1, 8, .inl (fun _ => 0)))]) _ _ := hW
  refine lv_aload_n hx hb dX4_init_50 rfl (lv_at hl 0 rfl) ?_
  refine lv_bipush (v := nI 8) hx hb dX4_init_51 (by decide) ?_
  refine n_newI (N' := 8) C hA hW rfl (by decide) (Nat.le_of_ble_eq_true rfl) (Nat.le_of_ble_eq_true rfl) dX4_init_53 (fun q5 H hW => ?_)
  have hW : nW G s wr ([(b, .inr (4, [.int 2, .int 0, .int 0, .int 2, .int 3, .ref q1, .ref q2, .ref q3, .ref q4, .null])), (q1, .inl (G.2.1.1, 5, .inl (fun _ => 0))), (q2, .inl (G.2.1.1, 8, .inl (fun _ => 0))), (q3, .inl (G.2.1.1, 8, .inl (fun _ => 0))), (q4, .inl (G.2.1.1, 8, .inl (fun _ => 0))), (q5, .inl (G.2.1.1, 8, .inl (fun _ => 0)))]) _ _ := hW
  refine n_putF (ci := 4) (v := .ref q5) (ty := (.array .int)) (q0 := 0) C hnm hW rfl rfl kin_X4 tyX4 tyX4_ok nmX4 9 (by decide) rfl rfl kf_X4_34 rfl (by decide +kernel) rfl rfl (Nat.le_of_ble_eq_true rfl) dX4_init_55 (fun H locs hW => ?_)
  have hW : nW G s wr ([(b, .inr (4, [.int 2, .int 0, .int 0, .int 2, .int 3, .ref q1, .ref q2, .ref q3, .ref q4, .ref q5])), (q1, .inl (G.2.1.1, 5, .inl (fun _ => 0))), (q2, .inl (G.2.1.1, 8, .inl (fun _ => 0))), (q3, .inl (G.2.1.1, 8, .inl (fun _ => 0))), (q4, .inl (G.2.1.1, 8, .inl (fun _ => 0))), (q5, .inl (G.2.1.1, 8, .inl (fun _ => 0)))]) _ _ := hW
  exact n_ret C hX hA hr hlk hW ⟨q1, q2, q3, q4, q5, rfl⟩ (Nat.le_of_ble_eq_true rfl) (Nat.le_of_ble_eq_true rfl) dX4_init_58
set_option maxHeartbeats 4000000 in
set_option maxRecDepth 100000 in
theorem n_X1 (l : Launch) (G : gG) (wr : va_W) (b : Nat) : nV l yX1_init cX1_init 1 1 20 3 18 G wr b [(b, .inr (1, [.int 0, .null, .null, .null]))] (fun nl => ∃ q1 q2 q3, nl = bHeard G b q1 q2 q3) := by
  refine nMet_of (by decide) (Nat.le_of_ble_eq_true rfl) ?_
  intro p e s m args below meth c C hX hA hr hlk hnm ls hl hW
  have hx := C.1
  have hb := C.2.1
  have hnm : meth.name = "<init>" := hnm
  have hl : lv_has ls 1 [(0, .ref b)] := hl
  refine lv_aload_n hx hb dX1_init_0 rfl (lv_at hl 0 rfl) ?_
  refine n_obj C hl.1 kml_X1_3 (Nat.le_of_ble_eq_true rfl) (Nat.le_of_ble_eq_true rfl) dX1_init_1 ?_
  refine lv_aload_n hx hb dX1_init_4 rfl (lv_at hl 0 rfl) ?_
  refine lv_bipush (v := nI 6) hx hb dX1_init_5 (by decide) ?_
  refine n_newI (N' := 6) C hA hW rfl (by decide) (Nat.le_of_ble_eq_true rfl) (Nat.le_of_ble_eq_true rfl) dX1_init_7 (fun q1 H hW => ?_)
  have hW : nW G s wr ([(b, .inr (1, [.int 0, .null, .null, .null])), (q1, .inl (G.2.1.1, 6, .inl (fun _ => 0)))]) _ _ := hW
  refine n_putF (ci := 1) (v := .ref q1) (ty := (.array .int)) (q0 := 0) C hnm hW rfl rfl kin_X1 tyX1 tyX1_ok nmX1 1 (by decide) rfl rfl kf_X1_9 rfl (by decide +kernel) rfl rfl (Nat.le_of_ble_eq_true rfl) dX1_init_9 (fun H locs hW => ?_)
  have hW : nW G s wr ([(b, .inr (1, [.int 0, .ref q1, .null, .null])), (q1, .inl (G.2.1.1, 6, .inl (fun _ => 0)))]) _ _ := hW
  refine lv_aload_n hx hb dX1_init_12 rfl (lv_at hl 0 rfl) ?_
  refine lv_bipush (v := nI 6) hx hb dX1_init_13 (by decide) ?_
  refine n_newI (N' := 6) C hA hW rfl (by decide) (Nat.le_of_ble_eq_true rfl) (Nat.le_of_ble_eq_true rfl) dX1_init_15 (fun q2 H hW => ?_)
  have hW : nW G s wr ([(b, .inr (1, [.int 0, .ref q1, .null, .null])), (q1, .inl (G.2.1.1, 6, .inl (fun _ => 0))), (q2, .inl (G.2.1.1, 6, .inl (fun _ => 0)))]) _ _ := hW
  refine n_putF (ci := 1) (v := .ref q2) (ty := (.array .int)) (q0 := 0) C hnm hW rfl rfl kin_X1 tyX1 tyX1_ok nmX1 2 (by decide) rfl rfl kf_X1_15 rfl (by decide +kernel) rfl rfl (Nat.le_of_ble_eq_true rfl) dX1_init_17 (fun H locs hW => ?_)
  have hW : nW G s wr ([(b, .inr (1, [.int 0, .ref q1, .ref q2, .null])), (q1, .inl (G.2.1.1, 6, .inl (fun _ => 0))), (q2, .inl (G.2.1.1, 6, .inl (fun _ => 0)))]) _ _ := hW
  refine lv_aload_n hx hb dX1_init_20 rfl (lv_at hl 0 rfl) ?_
  refine lv_bipush (v := nI 6) hx hb dX1_init_21 (by decide) ?_
  refine n_newI (N' := 6) C hA hW rfl (by decide) (Nat.le_of_ble_eq_true rfl) (Nat.le_of_ble_eq_true rfl) dX1_init_23 (fun q3 H hW => ?_)
  have hW : nW G s wr ([(b, .inr (1, [.int 0, .ref q1, .ref q2, .null])), (q1, .inl (G.2.1.1, 6, .inl (fun _ => 0))), (q2, .inl (G.2.1.1, 6, .inl (fun _ => 0))), (q3, .inl (G.2.1.1, 6, .inl (fun _ => 0)))]) _ _ := hW
  refine n_putF (ci := 1) (v := .ref q3) (ty := (.array .int)) (q0 := 0) C hnm hW rfl rfl kin_X1 tyX1 tyX1_ok nmX1 3 (by decide) rfl rfl kf_X1_18 rfl (by decide +kernel) rfl rfl (Nat.le_of_ble_eq_true rfl) dX1_init_25 (fun H locs hW => ?_)
  have hW : nW G s wr ([(b, .inr (1, [.int 0, .ref q1, .ref q2, .ref q3])), (q1, .inl (G.2.1.1, 6, .inl (fun _ => 0))), (q2, .inl (G.2.1.1, 6, .inl (fun _ => 0))), (q3, .inl (G.2.1.1, 6, .inl (fun _ => 0)))]) _ _ := hW
  exact n_ret C hX hA hr hlk hW ⟨q1, q2, q3, rfl⟩ (Nat.le_of_ble_eq_true rfl) (Nat.le_of_ble_eq_true rfl) dX1_init_28
set_option maxHeartbeats 4000000 in
set_option maxRecDepth 100000 in
theorem n_X8 (l : Launch) (G : gG) (wr : va_W) (b : Nat) : nV l yX8_init cX8_init 1 1 20 3 1927 G wr b [(b, .inr (8, [.null, .null, .null]))] (fun nl => ∃ q1 q2 q3, nl = bWays G b q1 q2 q3) := by
  refine nMet_of (by decide) (Nat.le_of_ble_eq_true rfl) ?_
  intro p e s m args below meth c C hX hA hr hlk hnm ls hl hW
  have hx := C.1
  have hb := C.2.1
  have hnm : meth.name = "<init>" := hnm
  have hl : lv_has ls 1 [(0, .ref b)] := hl
  refine lv_aload_n hx hb dX8_init_0 rfl (lv_at hl 0 rfl) ?_
  refine n_obj C hl.1 kml_X8_3 (Nat.le_of_ble_eq_true rfl) (Nat.le_of_ble_eq_true rfl) dX8_init_1 ?_
  refine lv_aload_n hx hb dX8_init_4 rfl (lv_at hl 0 rfl) ?_
  refine lv_sipush (v := nI 240) hx hb dX8_init_5 (by decide) ?_
  refine n_newI (N' := 240) C hA hW rfl (by decide) (Nat.le_of_ble_eq_true rfl) (Nat.le_of_ble_eq_true rfl) dX8_init_8 (fun q1 H hW => ?_)
  have hW : nW G s wr ([(b, .inr (8, [.null, .null, .null])), (q1, .inl (G.2.1.1, 240, .inl (fun _ => 0)))]) _ _ := hW
  refine n_putF (ci := 8) (v := .ref q1) (ty := (.array .int)) (q0 := 0) C hnm hW rfl rfl kin_X8 tyX8 tyX8_ok nmX8 0 (by decide) rfl rfl kf_X8_9 rfl (by decide +kernel) rfl rfl (Nat.le_of_ble_eq_true rfl) dX8_init_10 (fun H locs hW => ?_)
  have hW : nW G s wr ([(b, .inr (8, [.ref q1, .null, .null])), (q1, .inl (G.2.1.1, 240, .inl (fun _ => 0)))]) _ _ := hW
  refine lv_aload_n hx hb dX8_init_13 rfl (lv_at hl 0 rfl) ?_
  refine lv_sipush (v := nI 241) hx hb dX8_init_14 (by decide) ?_
  refine n_newI (N' := 241) C hA hW rfl (by decide) (Nat.le_of_ble_eq_true rfl) (Nat.le_of_ble_eq_true rfl) dX8_init_17 (fun q2 H hW => ?_)
  have hW : nW G s wr ([(b, .inr (8, [.ref q1, .null, .null])), (q1, .inl (G.2.1.1, 240, .inl (fun _ => 0))), (q2, .inl (G.2.1.1, 241, .inl (fun _ => 0)))]) _ _ := hW
  refine n_putF (ci := 8) (v := .ref q2) (ty := (.array .int)) (q0 := 0) C hnm hW rfl rfl kin_X8 tyX8 tyX8_ok nmX8 1 (by decide) rfl rfl kf_X8_15 rfl (by decide +kernel) rfl rfl (Nat.le_of_ble_eq_true rfl) dX8_init_19 (fun H locs hW => ?_)
  have hW : nW G s wr ([(b, .inr (8, [.ref q1, .ref q2, .null])), (q1, .inl (G.2.1.1, 240, .inl (fun _ => 0))), (q2, .inl (G.2.1.1, 241, .inl (fun _ => 0)))]) _ _ := hW
  refine lv_aload_n hx hb dX8_init_22 rfl (lv_at hl 0 rfl) ?_
  refine lv_sipush (v := nI 1446) hx hb dX8_init_23 (by decide) ?_
  refine n_newI (N' := 1446) C hA hW rfl (by decide) (Nat.le_of_ble_eq_true rfl) (Nat.le_of_ble_eq_true rfl) dX8_init_26 (fun q3 H hW => ?_)
  have hW : nW G s wr ([(b, .inr (8, [.ref q1, .ref q2, .null])), (q1, .inl (G.2.1.1, 240, .inl (fun _ => 0))), (q2, .inl (G.2.1.1, 241, .inl (fun _ => 0))), (q3, .inl (G.2.1.1, 1446, .inl (fun _ => 0)))]) _ _ := hW
  refine n_putF (ci := 8) (v := .ref q3) (ty := (.array .int)) (q0 := 0) C hnm hW rfl rfl kin_X8 tyX8 tyX8_ok nmX8 2 (by decide) rfl rfl kf_X8_18 rfl (by decide +kernel) rfl rfl (Nat.le_of_ble_eq_true rfl) dX8_init_28 (fun H locs hW => ?_)
  have hW : nW G s wr ([(b, .inr (8, [.ref q1, .ref q2, .ref q3])), (q1, .inl (G.2.1.1, 240, .inl (fun _ => 0))), (q2, .inl (G.2.1.1, 241, .inl (fun _ => 0))), (q3, .inl (G.2.1.1, 1446, .inl (fun _ => 0)))]) _ _ := hW
  exact n_ret C hX hA hr hlk hW ⟨q1, q2, q3, rfl⟩ (Nat.le_of_ble_eq_true rfl) (Nat.le_of_ble_eq_true rfl) dX8_init_31
set_option maxHeartbeats 4000000 in
set_option maxRecDepth 100000 in
theorem n_X7 (l : Launch) (G : gG) (wr : va_W) (b : Nat) : nV l yX7_init cX7_init 1 1 20 1 240 G wr b [(b, .inr (7, [.null, .int 0]))] (fun nl => ∃ q1, nl = bSil G b q1) := by
  refine nMet_of (by decide) (Nat.le_of_ble_eq_true rfl) ?_
  intro p e s m args below meth c C hX hA hr hlk hnm ls hl hW
  have hx := C.1
  have hb := C.2.1
  have hnm : meth.name = "<init>" := hnm
  have hl : lv_has ls 1 [(0, .ref b)] := hl
  refine lv_aload_n hx hb dX7_init_0 rfl (lv_at hl 0 rfl) ?_
  refine n_obj C hl.1 kml_X7_3 (Nat.le_of_ble_eq_true rfl) (Nat.le_of_ble_eq_true rfl) dX7_init_1 ?_
  refine lv_aload_n hx hb dX7_init_4 rfl (lv_at hl 0 rfl) ?_
  refine lv_sipush (v := nI 240) hx hb dX7_init_5 (by decide) ?_
  refine n_newI (N' := 240) C hA hW rfl (by decide) (Nat.le_of_ble_eq_true rfl) (Nat.le_of_ble_eq_true rfl) dX7_init_8 (fun q1 H hW => ?_)
  have hW : nW G s wr ([(b, .inr (7, [.null, .int 0])), (q1, .inl (G.2.1.1, 240, .inl (fun _ => 0)))]) _ _ := hW
  refine n_putF (ci := 7) (v := .ref q1) (ty := (.array .int)) (q0 := 0) C hnm hW rfl rfl kin_X7 tyX7 tyX7_ok nmX7 0 (by decide) rfl rfl kf_X7_9 rfl (by decide +kernel) rfl rfl (Nat.le_of_ble_eq_true rfl) dX7_init_10 (fun H locs hW => ?_)
  have hW : nW G s wr ([(b, .inr (7, [.ref q1, .int 0])), (q1, .inl (G.2.1.1, 240, .inl (fun _ => 0)))]) _ _ := hW
  exact n_ret C hX hA hr hlk hW ⟨q1, rfl⟩ (Nat.le_of_ble_eq_true rfl) (Nat.le_of_ble_eq_true rfl) dX7_init_13
set_option maxHeartbeats 4000000 in
set_option maxRecDepth 100000 in
theorem n_X5 (l : Launch) (G : gG) (wr : va_W) (b : Nat) : nV l yX5_init cX5_init 1 1 20 0 0 G wr b [(b, .inr (5, [.long 0]))] (fun nl => nl = bRates b) := by
  refine nMet_of (by decide) (Nat.le_of_ble_eq_true rfl) ?_
  intro p e s m args below meth c C hX hA hr hlk hnm ls hl hW
  have hx := C.1
  have hb := C.2.1
  have hnm : meth.name = "<init>" := hnm
  have hl : lv_has ls 1 [(0, .ref b)] := hl
  refine lv_aload_n hx hb dX5_init_0 rfl (lv_at hl 0 rfl) ?_
  refine n_obj C hl.1 kml_X5_1 (Nat.le_of_ble_eq_true rfl) (Nat.le_of_ble_eq_true rfl) dX5_init_1 ?_
  exact n_ret C hX hA hr hlk hW rfl (Nat.le_of_ble_eq_true rfl) (Nat.le_of_ble_eq_true rfl) dX5_init_4
set_option maxHeartbeats 4000000 in
set_option maxRecDepth 100000 in
theorem n_X6 (l : Launch) (G : gG) (wr : va_W) (b : Nat) : nV l yX6_init cX6_init 1 2 40 7 247 G wr b [(b, .inr (6, [.null, .int 0, .null, .int 0, .int 0, .int 0, .int 0, .int 0, .int 0, .int 0]))] (fun nl => ∃ q1 q2 q3 q4 q5 q6 q7, nl = bReader G b q1 q2 q3 q4 q5 q6 q7) := by
  refine nMet_of (by decide) (Nat.le_of_ble_eq_true rfl) ?_
  intro p e s m args below meth c C hX hA hr hlk hnm ls hl hW
  have hx := C.1
  have hb := C.2.1
  have hnm : meth.name = "<init>" := hnm
  have hl : lv_has ls 1 [(0, .ref b)] := hl
  refine lv_aload_n hx hb dX6_init_0 rfl (lv_at hl 0 rfl) ?_
  refine n_obj C hl.1 kml_X6_3 (Nat.le_of_ble_eq_true rfl) (Nat.le_of_ble_eq_true rfl) dX6_init_1 ?_
  refine lv_aload_n hx hb dX6_init_4 rfl (lv_at hl 0 rfl) ?_
  refine lv_sipush (v := nI 200) hx hb dX6_init_5 (by decide) ?_
  refine n_newI (N' := 200) C hA hW rfl (by decide) (Nat.le_of_ble_eq_true rfl) (Nat.le_of_ble_eq_true rfl) dX6_init_8 (fun q1 H hW => ?_)
  have hW : nW G s wr ([(b, .inr (6, [.null, .int 0, .null, .int 0, .int 0, .int 0, .int 0, .int 0, .int 0, .int 0])), (q1, .inl (G.2.1.1, 200, .inl (fun _ => 0)))]) _ _ := hW
  refine n_putF (ci := 6) (v := .ref q1) (ty := (.array .int)) (q0 := 0) C hnm hW rfl rfl kin_X6 tyX6 tyX6_ok nmX6 0 (by decide) rfl rfl kf_X6_9 rfl (by decide +kernel) rfl rfl (Nat.le_of_ble_eq_true rfl) dX6_init_10 (fun H locs hW => ?_)
  have hW : nW G s wr ([(b, .inr (6, [.ref q1, .int 0, .null, .int 0, .int 0, .int 0, .int 0, .int 0, .int 0, .int 0])), (q1, .inl (G.2.1.1, 200, .inl (fun _ => 0)))]) _ _ := hW
  refine lv_aload_n hx hb dX6_init_13 rfl (lv_at hl 0 rfl) ?_
  refine n_new (ci := 4) (fs := [.int 0, .int 0, .int 0, .int 0, .int 0, .null, .null, .null, .null, .null]) (Cn := RX4) (T := TX4) (N := 10) C hA hW kin_X4 tyX4 tyX4_ok kcl_X6_15 kins_X4 kini_X4 rfl (fun j hj => by rcases (show j = 0 ∨ j = 1 ∨ j = 2 ∨ j = 3 ∨ j = 4 ∨ j = 5 ∨ j = 6 ∨ j = 7 ∨ j = 8 ∨ j = 9 by omega) with rfl | rfl | rfl | rfl | rfl | rfl | rfl | rfl | rfl | rfl <;> rfl) (Nat.le_of_ble_eq_true rfl) (Nat.le_of_ble_eq_true rfl) dX6_init_14 (fun q2 H hW => ?_)
  have hW := nW_r.mpr hW
  refine lv_dup hx hb dX6_init_17 rfl ?_
  refine n_callN hX.2.2.1 C hX hA hW (n_X4 l G (wr ++ ([(b, .inr (6, [.ref q1, .int 0, .null, .int 0, .int 0, .int 0, .int 0, .int 0, .int 0, .int 0])), (q1, .inl (G.2.1.1, 200, .inl (fun _ => 0)))])) q2) kco_X4_init kini_X4 kim_X4_init rfl (by decide +kernel) ⟨Nat.le_of_ble_eq_true rfl, Nat.le_of_ble_eq_true rfl⟩ ⟨Nat.le_of_ble_eq_true rfl, Nat.le_of_ble_eq_true rfl⟩ hl.1 (Nat.le_of_ble_eq_true rfl) dX6_init_18 (fun nl H locs hp hW => ?_)
  obtain ⟨r3, r4, r5, r6, r7, rfl⟩ := hp
  have hW := nW_r.mp hW
  have hW : nW G s wr ([(b, .inr (6, [.ref q1, .int 0, .null, .int 0, .int 0, .int 0, .int 0, .int 0, .int 0, .int 0])), (q1, .inl (G.2.1.1, 200, .inl (fun _ => 0)))] ++ (bPlan G q2 r3 r4 r5 r6 r7)) _ _ := hW
  refine n_putF (ci := 6) (v := .ref q2) (ty := .object "AbsentBells$Plan") (q0 := 0) C hnm hW rfl rfl kin_X6 tyX6 tyX6_ok nmX6 2 (by decide) rfl rfl kf_X6_18 rfl (by decide +kernel) rfl rfl (Nat.le_of_ble_eq_true rfl) dX6_init_21 (fun H locs hW => ?_)
  have hW : nW G s wr ([(b, .inr (6, [.ref q1, .int 0, .ref q2, .int 0, .int 0, .int 0, .int 0, .int 0, .int 0, .int 0])), (q1, .inl (G.2.1.1, 200, .inl (fun _ => 0)))] ++ (bPlan G q2 r3 r4 r5 r6 r7)) _ _ := hW
  refine lv_aload_n hx hb dX6_init_24 rfl (lv_at hl 0 rfl) ?_
  refine lv_bipush (v := (-9)) hx hb dX6_init_25 (by decide) ?_
  refine n_put (ci := 6) (v := .int (-9)) (ty := .int) (q0 := 0) C hW rfl rfl kin_X6 tyX6 tyX6_ok nmX6 3 (by decide) rfl kf_X6_22 rfl (by decide +kernel) rfl rfl (Nat.le_of_ble_eq_true rfl) dX6_init_27 (fun H locs hW => ?_)
  have hW : nW G s wr ([(b, .inr (6, [.ref q1, .int 0, .ref q2, .int (-9), .int 0, .int 0, .int 0, .int 0, .int 0, .int 0])), (q1, .inl (G.2.1.1, 200, .inl (fun _ => 0)))] ++ (bPlan G q2 r3 r4 r5 r6 r7)) _ _ := hW
  exact n_ret C hX hA hr hlk hW ⟨q1, q2, r3, r4, r5, r6, r7, rfl⟩ (Nat.le_of_ble_eq_true rfl) (Nat.le_of_ble_eq_true rfl) dX6_init_30
set_option maxHeartbeats 4000000 in
set_option maxRecDepth 100000 in
theorem n_X0 (l : Launch) (G : gG) (wr : va_W) (b : Nat) : nV l yX0_init cX0_init 1 2 40 11 76 G wr b [(b, .inr (0, [.null, .null]))] (fun nl => ∃ q1 q2 q3 q4 q5 q6 q7 q8 q9 q10 q11, nl = bDay G b q1 q2 q3 q4 q5 q6 q7 q8 q9 q10 q11) := by
  refine nMet_of (by decide) (Nat.le_of_ble_eq_true rfl) ?_
  intro p e s m args below meth c C hX hA hr hlk hnm ls hl hW
  have hx := C.1
  have hb := C.2.1
  have hnm : meth.name = "<init>" := hnm
  have hl : lv_has ls 1 [(0, .ref b)] := hl
  refine lv_aload_n hx hb dX0_init_0 rfl (lv_at hl 0 rfl) ?_
  refine n_obj C hl.1 kml_X0_3 (Nat.le_of_ble_eq_true rfl) (Nat.le_of_ble_eq_true rfl) dX0_init_1 ?_
  refine lv_aload_n hx hb dX0_init_4 rfl (lv_at hl 0 rfl) ?_
  refine n_new (ci := 4) (fs := [.int 0, .int 0, .int 0, .int 0, .int 0, .null, .null, .null, .null, .null]) (Cn := RX4) (T := TX4) (N := 10) C hA hW kin_X4 tyX4 tyX4_ok kcl_X0_9 kins_X4 kini_X4 rfl (fun j hj => by rcases (show j = 0 ∨ j = 1 ∨ j = 2 ∨ j = 3 ∨ j = 4 ∨ j = 5 ∨ j = 6 ∨ j = 7 ∨ j = 8 ∨ j = 9 by omega) with rfl | rfl | rfl | rfl | rfl | rfl | rfl | rfl | rfl | rfl <;> rfl) (Nat.le_of_ble_eq_true rfl) (Nat.le_of_ble_eq_true rfl) dX0_init_5 (fun q1 H hW => ?_)
  have hW := nW_r.mpr hW
  refine lv_dup hx hb dX0_init_8 rfl ?_
  refine n_callN hX.2.2.2.2.1 C hX hA hW (n_X4 l G (wr ++ ([(b, .inr (0, [.null, .null]))])) q1) kco_X4_init kini_X4 kim_X4_init rfl (by decide +kernel) ⟨Nat.le_of_ble_eq_true rfl, Nat.le_of_ble_eq_true rfl⟩ ⟨Nat.le_of_ble_eq_true rfl, Nat.le_of_ble_eq_true rfl⟩ hl.1 (Nat.le_of_ble_eq_true rfl) dX0_init_9 (fun nl H locs hp hW => ?_)
  obtain ⟨r2, r3, r4, r5, r6, rfl⟩ := hp
  have hW := nW_r.mp hW
  have hW : nW G s wr ([(b, .inr (0, [.null, .null]))] ++ (bPlan G q1 r2 r3 r4 r5 r6)) _ _ := hW
  refine n_putF (ci := 0) (v := .ref q1) (ty := .object "AbsentBells$Plan") (q0 := 0) C hnm hW rfl rfl kin_X0 tyX0 tyX0_ok nmX0 0 (by decide) rfl rfl kf_X0_12 rfl (by decide +kernel) rfl rfl (Nat.le_of_ble_eq_true rfl) dX0_init_12 (fun H locs hW => ?_)
  have hW : nW G s wr ([(b, .inr (0, [.ref q1, .null]))] ++ (bPlan G q1 r2 r3 r4 r5 r6)) _ _ := hW
  refine lv_aload_n hx hb dX0_init_15 rfl (lv_at hl 0 rfl) ?_
  refine n_new (ci := 3) (fs := [.int 0, .int 0, .null, .null, .null, .null]) (Cn := RX3) (T := TX3) (N := 6) C hA hW kin_X3 tyX3 tyX3_ok kcl_X0_18 kins_X3 kini_X3 rfl (fun j hj => by rcases (show j = 0 ∨ j = 1 ∨ j = 2 ∨ j = 3 ∨ j = 4 ∨ j = 5 by omega) with rfl | rfl | rfl | rfl | rfl | rfl <;> rfl) (Nat.le_of_ble_eq_true rfl) (Nat.le_of_ble_eq_true rfl) dX0_init_16 (fun q7 H hW => ?_)
  have hW := nW_r.mpr hW
  refine lv_dup hx hb dX0_init_19 rfl ?_
  refine n_callN hX.2.2.2.2.2.1 C hX hA hW (n_X3 l G (wr ++ ([(b, .inr (0, [.ref q1, .null]))] ++ (bPlan G q1 r2 r3 r4 r5 r6))) q7) kco_X3_init kini_X3 kim_X3_init rfl (by decide +kernel) ⟨Nat.le_of_ble_eq_true rfl, Nat.le_of_ble_eq_true rfl⟩ ⟨Nat.le_of_ble_eq_true rfl, Nat.le_of_ble_eq_true rfl⟩ hl.1 (Nat.le_of_ble_eq_true rfl) dX0_init_20 (fun nl H locs hp hW => ?_)
  obtain ⟨r8, r9, r10, r11, rfl⟩ := hp
  have hW := nW_r.mp hW
  have hW : nW G s wr ([(b, .inr (0, [.ref q1, .null]))] ++ (bPlan G q1 r2 r3 r4 r5 r6) ++ (bMom G q7 r8 r9 r10 r11)) _ _ := hW
  refine n_putF (ci := 0) (v := .ref q7) (ty := .object "AbsentBells$Moment") (q0 := 0) C hnm hW rfl rfl kin_X0 tyX0 tyX0_ok nmX0 1 (by decide) rfl rfl kf_X0_21 rfl (by decide +kernel) rfl rfl (Nat.le_of_ble_eq_true rfl) dX0_init_23 (fun H locs hW => ?_)
  have hW : nW G s wr ([(b, .inr (0, [.ref q1, .ref q7]))] ++ (bPlan G q1 r2 r3 r4 r5 r6) ++ (bMom G q7 r8 r9 r10 r11)) _ _ := hW
  exact n_ret C hX hA hr hlk hW ⟨q1, r2, r3, r4, r5, r6, q7, r8, r9, r10, r11, rfl⟩ (Nat.le_of_ble_eq_true rfl) (Nat.le_of_ble_eq_true rfl) dX0_init_26
