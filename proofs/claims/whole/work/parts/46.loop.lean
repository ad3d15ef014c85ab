/-! ===== the law: its loop ===== -/
theorem sw25 (x : Int32) : (x.toInt < 0 ∨ 24 < x.toInt) ∨ x = 0 ∨ x = 1 ∨ x = 2 ∨ x = 3 ∨ x = 4 ∨ x = 5 ∨ x = 6 ∨ x = 7 ∨ x = 8 ∨ x = 9 ∨ x = 10 ∨ x = 11 ∨ x = 12 ∨ x = 13 ∨ x = 14 ∨ x = 15 ∨ x = 16 ∨ x = 17 ∨ x = 18 ∨ x = 19 ∨ x = 20 ∨ x = 21 ∨ x = 22 ∨ x = 23 ∨ x = 24 := by
  have h : (x.toInt < 0 ∨ 24 < x.toInt) ∨ x.toInt = 0 ∨ x.toInt = 1 ∨ x.toInt = 2 ∨ x.toInt = 3 ∨ x.toInt = 4 ∨ x.toInt = 5 ∨ x.toInt = 6 ∨ x.toInt = 7 ∨ x.toInt = 8 ∨ x.toInt = 9 ∨ x.toInt = 10 ∨ x.toInt = 11 ∨ x.toInt = 12 ∨ x.toInt = 13 ∨ x.toInt = 14 ∨ x.toInt = 15 ∨ x.toInt = 16 ∨ x.toInt = 17 ∨ x.toInt = 18 ∨ x.toInt = 19 ∨ x.toInt = 20 ∨ x.toInt = 21 ∨ x.toInt = 22 ∨ x.toInt = 23 ∨ x.toInt = 24 := by omega
  have e : ∀ n : Nat, n < 25 → x.toInt = (n : Int) → x = nI n := fun n hn q => Int32.toInt_inj.mp (q.trans (nI_toInt (by omega)).symm)
  rcases h with h | h | h | h | h | h | h | h | h | h | h | h | h | h | h | h | h | h | h | h | h | h | h | h | h | h
  · exact Or.inl h
  · exact Or.inr (Or.inl (e 0 (by decide) h))
  · exact Or.inr (Or.inr (Or.inl (e 1 (by decide) h)))
  · exact Or.inr (Or.inr (Or.inr (Or.inl (e 2 (by decide) h))))
  · exact Or.inr (Or.inr (Or.inr (Or.inr (Or.inl (e 3 (by decide) h)))))
  · exact Or.inr (Or.inr (Or.inr (Or.inr (Or.inr (Or.inl (e 4 (by decide) h))))))
  · exact Or.inr (Or.inr (Or.inr (Or.inr (Or.inr (Or.inr (Or.inl (e 5 (by decide) h)))))))
  · exact Or.inr (Or.inr (Or.inr (Or.inr (Or.inr (Or.inr (Or.inr (Or.inl (e 6 (by decide) h))))))))
  · exact Or.inr (Or.inr (Or.inr (Or.inr (Or.inr (Or.inr (Or.inr (Or.inr (Or.inl (e 7 (by decide) h)))))))))
  · exact Or.inr (Or.inr (Or.inr (Or.inr (Or.inr (Or.inr (Or.inr (Or.inr (Or.inr (Or.inl (e 8 (by decide) h))))))))))
  · exact Or.inr (Or.inr (Or.inr (Or.inr (Or.inr (Or.inr (Or.inr (Or.inr (Or.inr (Or.inr (Or.inl (e 9 (by decide) h)))))))))))
  · exact Or.inr (Or.inr (Or.inr (Or.inr (Or.inr (Or.inr (Or.inr (Or.inr (Or.inr (Or.inr (Or.inr (Or.inl (e 10 (by decide) h))))))))))))
  · exact Or.inr (Or.inr (Or.inr (Or.inr (Or.inr (Or.inr (Or.inr (Or.inr (Or.inr (Or.inr (Or.inr (Or.inr (Or.inl (e 11 (by decide) h)))))))))))))
  · exact Or.inr (Or.inr (Or.inr (Or.inr (Or.inr (Or.inr (Or.inr (Or.inr (Or.inr (Or.inr (Or.inr (Or.inr (Or.inr (Or.inl (e 12 (by decide) h))))))))))))))
  · exact Or.inr (Or.inr (Or.inr (Or.inr (Or.inr (Or.inr (Or.inr (Or.inr (Or.inr (Or.inr (Or.inr (Or.inr (Or.inr (Or.inr (Or.inl (e 13 (by decide) h)))))))))))))))
  · exact Or.inr (Or.inr (Or.inr (Or.inr (Or.inr (Or.inr (Or.inr (Or.inr (Or.inr (Or.inr (Or.inr (Or.inr (Or.inr (Or.inr (Or.inr (Or.inl (e 14 (by decide) h))))))))))))))))
  · exact Or.inr (Or.inr (Or.inr (Or.inr (Or.inr (Or.inr (Or.inr (Or.inr (Or.inr (Or.inr (Or.inr (Or.inr (Or.inr (Or.inr (Or.inr (Or.inr (Or.inl (e 15 (by decide) h)))))))))))))))))
  · exact Or.inr (Or.inr (Or.inr (Or.inr (Or.inr (Or.inr (Or.inr (Or.inr (Or.inr (Or.inr (Or.inr (Or.inr (Or.inr (Or.inr (Or.inr (Or.inr (Or.inr (Or.inl (e 16 (by decide) h))))))))))))))))))
  · exact Or.inr (Or.inr (Or.inr (Or.inr (Or.inr (Or.inr (Or.inr (Or.inr (Or.inr (Or.inr (Or.inr (Or.inr (Or.inr (Or.inr (Or.inr (Or.inr (Or.inr (Or.inr (Or.inl (e 17 (by decide) h)))))))))))))))))))
  · exact Or.inr (Or.inr (Or.inr (Or.inr (Or.inr (Or.inr (Or.inr (Or.inr (Or.inr (Or.inr (Or.inr (Or.inr (Or.inr (Or.inr (Or.inr (Or.inr (Or.inr (Or.inr (Or.inr (Or.inl (e 18 (by decide) h))))))))))))))))))))
  · exact Or.inr (Or.inr (Or.inr (Or.inr (Or.inr (Or.inr (Or.inr (Or.inr (Or.inr (Or.inr (Or.inr (Or.inr (Or.inr (Or.inr (Or.inr (Or.inr (Or.inr (Or.inr (Or.inr (Or.inr (Or.inl (e 19 (by decide) h)))))))))))))))))))))
  · exact Or.inr (Or.inr (Or.inr (Or.inr (Or.inr (Or.inr (Or.inr (Or.inr (Or.inr (Or.inr (Or.inr (Or.inr (Or.inr (Or.inr (Or.inr (Or.inr (Or.inr (Or.inr (Or.inr (Or.inr (Or.inr (Or.inl (e 20 (by decide) h))))))))))))))))))))))
  · exact Or.inr (Or.inr (Or.inr (Or.inr (Or.inr (Or.inr (Or.inr (Or.inr (Or.inr (Or.inr (Or.inr (Or.inr (Or.inr (Or.inr (Or.inr (Or.inr (Or.inr (Or.inr (Or.inr (Or.inr (Or.inr (Or.inr (Or.inl (e 21 (by decide) h)))))))))))))))))))))))
  · exact Or.inr (Or.inr (Or.inr (Or.inr (Or.inr (Or.inr (Or.inr (Or.inr (Or.inr (Or.inr (Or.inr (Or.inr (Or.inr (Or.inr (Or.inr (Or.inr (Or.inr (Or.inr (Or.inr (Or.inr (Or.inr (Or.inr (Or.inr (Or.inl (e 22 (by decide) h))))))))))))))))))))))))
  · exact Or.inr (Or.inr (Or.inr (Or.inr (Or.inr (Or.inr (Or.inr (Or.inr (Or.inr (Or.inr (Or.inr (Or.inr (Or.inr (Or.inr (Or.inr (Or.inr (Or.inr (Or.inr (Or.inr (Or.inr (Or.inr (Or.inr (Or.inr (Or.inr (Or.inl (e 23 (by decide) h)))))))))))))))))))))))))
  · exact Or.inr (Or.inr (Or.inr (Or.inr (Or.inr (Or.inr (Or.inr (Or.inr (Or.inr (Or.inr (Or.inr (Or.inr (Or.inr (Or.inr (Or.inr (Or.inr (Or.inr (Or.inr (Or.inr (Or.inr (Or.inr (Or.inr (Or.inr (Or.inr (Or.inr (e 24 (by decide) h)))))))))))))))))))))))))
set_option maxHeartbeats 4000000 in
set_option maxRecDepth 100000 in
theorem law_loop {p : Program} {l : Launch} {e : Env} {s : State} {m : MethodId} {below : List Frame} {meth : Method} {c : Code} {G : gG} {b L : Nat} {xs : Nat → Int32} (C : gCx p s m #[Value.ref b] c G cL_law 4 RL) (hr : meth.sig.returnType = ret) (hlk : meth.locks = false) (hX : va_X b L xs s s.heap) (hbl : b < s.heap.size) (hA : ∀ q, gA G q → s.heap.size ≤ q) (hL : L ≤ 2560) :
    ∀ (n i : Nat) (σ : gSt) (τ : Nat → Int64) (H : Heap) (locs : List Loc) (ls : Array Slot), i ≤ L + 5 → L + 6 ≤ n + i → gInv σ τ → gW G s σ τ H locs → lv_has ls 4 [(3, .int (nI i)), (2, .ref (gAd G 96)), (1, .ref (gAd G 0)), (0, .ref b)] → W p l e room_1 s m #[Value.ref b] below meth c H locs 600000 7302250 (lw_Z below #[Value.ref b] s) (F0 m 18 ls []) := by
  have hx := C.1
  have hb := C.2.1
  have hbA : ¬ gA G b := fun q => Nat.not_le.mpr hbl (hA b q)
  intro n
  induction n with
  | zero =>
    intro i σ τ H locs ls h1 h2
    exact absurd h2 (by omega)
  | succ n ih =>
    intro i σ τ H locs ls h1 h2 hI hW hl
    refine lv_iload_n hx hb dL_law_18 rfl (lv_at hl 0 rfl) ?_
    refine lv_aload_n hx hb dL_law_19 rfl (lv_at hl 3 rfl) ?_
    refine va_slen hx hb hX hbl hbA hW.2.2 dL_law_20 ?_
    refine lv_iconst (v := 5) hx hb dL_law_21 (by decide) ?_
    refine lv_isub hx hb dL_law_22 ?_
    have eL : (Int32.ofNat L - 5).toInt = (L : Int) - 5 := pk_sub_toInt (a := L) (b := 5) (by omega) (by decide)
    have eI : (nI i).toInt = (i : Int) := nI_toInt (by omega)
    refine lv_icmp_gt (tgt := 830) hx hb dL_law_23 (by decide) (fun _ => ?_) (fun c_1 => ?_)
    · refine lv_iconst (v := 1) hx hb dL_law_830 (by decide) ?_
      refine va_forget (fun q hq => hA _ (hW.2.2.2.2 q hq)) ?_
      exact lw_ret hx hb hr hlk dL_law_831
    · rw [Int32.lt_iff_toInt_lt, eL, eI] at c_1
      have hi : i + 5 ≤ L := by omega
      have kk : ∀ (σ2 : gSt) (τ2 : Nat → Int64) (H2 : Heap) (locs2 : List Loc), gW G s σ2 τ2 H2 locs2 → gInv σ2 τ2 → W p l e room_1 s m #[Value.ref b] below meth c H2 locs2 600000 7302250 (lw_Z below #[Value.ref b] s) (F0 m 824 ls []) := by
        intro σ2 τ2 H2 locs2 hW2 hI2
        refine lv_iinc (v := nI (i + 5)) (lv' := [(3, .int (nI (i + 5))), (2, .ref (gAd G 96)), (1, .ref (gAd G 0)), (0, .ref b)]) hx hb dL_law_824 hl (k := 0) rfl (nI_add i 5) (by decide) rfl (fun ls hl => ?_)
        refine lv_goto (tgt := 18) hx hb dL_law_827 (by decide) ?_
        exact ih (i + 5) σ2 τ2 H2 locs2 ls (by omega) (by omega) hI2 hW2 hl
      refine lv_aload_n hx hb dL_law_26 rfl (lv_at hl 3 rfl) ?_
      refine lv_iload_n hx hb dL_law_27 rfl (lv_at hl 0 rfl) ?_
      refine va_sld hx hb hX hbl hbA hW.2.2 (vp_in_nI (by omega) (by omega)) dL_law_28 ?_
      refine lv_bipush (v := 31) hx hb dL_law_29 (by decide) ?_
      refine lv_iand hx hb dL_law_31 ?_
      refine lv_topi (fun x _ => ?_)
      rcases sw25 x with h | h | h | h | h | h | h | h | h | h | h | h | h | h | h | h | h | h | h | h | h | h | h | h | h | h
      · exact lv_tableOut (tgt := 824) hx hb dL_law_32 h (by decide) (kk _ _ _ _ hW hI)
      · refine lv_tableIn (tgt := 148) (off := 116) hx hb dL_law_32 (by rw [h]; decide) (by rw [h]; decide) (by rw [h]; rfl) (by decide) ?_
        exact law_type C hX hbl hbA hW hI hl hi hL kk
      · refine lv_tableIn (tgt := 171) (off := 139) hx hb dL_law_32 (by rw [h]; decide) (by rw [h]; decide) (by rw [h]; rfl) (by decide) ?_
        exact law_clear C hX hbl hbA hW hI hl hi hL kk
      · refine lv_tableIn (tgt := 184) (off := 152) hx hb dL_law_32 (by rw [h]; decide) (by rw [h]; decide) (by rw [h]; rfl) (by decide) ?_
        exact law_town C hX hbl hbA hW hI hl hi hL kk
      · refine lv_tableIn (tgt := 197) (off := 165) hx hb dL_law_32 (by rw [h]; decide) (by rw [h]; decide) (by rw [h]; rfl) (by decide) ?_
        exact law_person C hX hbl hbA hW hI hl hi hL kk
      · refine lv_tableIn (tgt := 230) (off := 198) hx hb dL_law_32 (by rw [h]; decide) (by rw [h]; decide) (by rw [h]; rfl) (by decide) ?_
        exact law_duty C hX hbl hbA hW hI hl hi hL kk
      · refine lv_tableIn (tgt := 263) (off := 231) hx hb dL_law_32 (by rw [h]; decide) (by rw [h]; decide) (by rw [h]; rfl) (by decide) ?_
        exact law_now C hX hbl hbA hW hI hl hi hL kk
      · refine lv_tableIn (tgt := 286) (off := 254) hx hb dL_law_32 (by rw [h]; decide) (by rw [h]; decide) (by rw [h]; rfl) (by decide) ?_
        exact law_goes C hX hbl hbA hW hI hl hi hL kk
      · refine lv_tableIn (tgt := 319) (off := 287) hx hb dL_law_32 (by rw [h]; decide) (by rw [h]; decide) (by rw [h]; rfl) (by decide) ?_
        exact law_passes C hX hbl hbA hW hI hl hi hL kk
      · refine lv_tableIn (tgt := 342) (off := 310) hx hb dL_law_32 (by rw [h]; decide) (by rw [h]; decide) (by rw [h]; rfl) (by decide) ?_
        exact law_excuses C hX hbl hbA hW hI hl hi hL kk
      · refine lv_tableIn (tgt := 375) (off := 343) hx hb dL_law_32 (by rw [h]; decide) (by rw [h]; decide) (by rw [h]; rfl) (by decide) ?_
        exact law_swaps C hX hbl hbA hW hI hl hi hL kk
      · refine lv_tableIn (tgt := 408) (off := 376) hx hb dL_law_32 (by rw [h]; decide) (by rw [h]; decide) (by rw [h]; rfl) (by decide) ?_
        exact law_undo C hX hbl hbA hW hI hl hi hL kk
      · refine lv_tableIn (tgt := 421) (off := 389) hx hb dL_law_32 (by rw [h]; decide) (by rw [h]; decide) (by rw [h]; rfl) (by decide) ?_
        exact law_rings C hX hbl hbA hW hI hl hi hL kk
      · refine lv_tableIn (tgt := 444) (off := 412) hx hb dL_law_32 (by rw [h]; decide) (by rw [h]; decide) (by rw [h]; rfl) (by decide) ?_
        exact law_chord C hX hbl hbA hW hI hl hi hL kk
      · refine lv_tableIn (tgt := 477) (off := 445) hx hb dL_law_32 (by rw [h]; decide) (by rw [h]; decide) (by rw [h]; rfl) (by decide) ?_
        exact law_silence C hX hbl hbA hW hI hl hi hL kk
      · refine lv_tableIn (tgt := 500) (off := 468) hx hb dL_law_32 (by rw [h]; decide) (by rw [h]; decide) (by rw [h]; rfl) (by decide) ?_
        exact law_least C hX hbl hbA hW hI hl hi hL kk
      · refine lv_tableIn (tgt := 533) (off := 501) hx hb dL_law_32 (by rw [h]; decide) (by rw [h]; decide) (by rw [h]; rfl) (by decide) ?_
        exact law_hears C hX hbl hbA hW hI hl hi hL kk
      · refine lv_tableIn (tgt := 576) (off := 544) hx hb dL_law_32 (by rw [h]; decide) (by rw [h]; decide) (by rw [h]; rfl) (by decide) ?_
        exact law_forget C hX hbl hbA hW hI hl hi hL kk
      · refine lv_tableIn (tgt := 589) (off := 557) hx hb dL_law_32 (by rw [h]; decide) (by rw [h]; decide) (by rw [h]; rfl) (by decide) ?_
        exact law_can C hX hbl hbA hW hI hl hi hL kk
      · refine lv_tableIn (tgt := 612) (off := 580) hx hb dL_law_32 (by rw [h]; decide) (by rw [h]; decide) (by rw [h]; rfl) (by decide) ?_
        exact law_tells C hX hbl hbA hW hI hl hi hL kk
      · refine lv_tableIn (tgt := 655) (off := 623) hx hb dL_law_32 (by rw [h]; decide) (by rw [h]; decide) (by rw [h]; rfl) (by decide) ?_
        exact law_odds C hX hbl hbA hW hI hl hi hL kk
      · refine lv_tableIn (tgt := 708) (off := 676) hx hb dL_law_32 (by rw [h]; decide) (by rw [h]; decide) (by rw [h]; rfl) (by decide) ?_
        exact law_rate C hX hbl hbA hW hI hl hi hL kk
      · refine lv_tableIn (tgt := 741) (off := 709) hx hb dL_law_32 (by rw [h]; decide) (by rw [h]; decide) (by rw [h]; rfl) (by decide) ?_
        exact law_keep C hX hbl hbA hW hI hl hi hL kk
      · refine lv_tableIn (tgt := 764) (off := 732) hx hb dL_law_32 (by rw [h]; decide) (by rw [h]; decide) (by rw [h]; rfl) (by decide) ?_
        exact law_back C hX hbl hbA hW hI hl hi hL kk
      · refine lv_tableIn (tgt := 787) (off := 755) hx hb dL_law_32 (by rw [h]; decide) (by rw [h]; decide) (by rw [h]; rfl) (by decide) ?_
        exact law_count C hX hbl hbA hW hI hl hi hL kk
      · refine lv_tableIn (tgt := 810) (off := 778) hx hb dL_law_32 (by rw [h]; decide) (by rw [h]; decide) (by rw [h]; rfl) (by decide) ?_
        exact law_trace C hX hbl hbA hW hI hl hi hL kk
