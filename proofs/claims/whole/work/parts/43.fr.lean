/-! ===== what the calls leave as it was: the class all of the reference, the reference all of the class ===== -/
theorem kRem_96 {σ : gSt} {j u c : Nat} (hj : j < 10) (h : 96 ≤ c) : kRem σ j u c = σ c := by
  rw [kRem, gu_ne (by omega), gu_ne (by omega), kTake_ne (by omega)]
theorem kRes_96 {σ : gSt} {j u c : Nat} (h : 96 ≤ c) : kRes σ j u c = σ c := by
  unfold kRes; split
  · rfl
  · rw [kTake_ne (by omega), gu_ne (by omega), gu_ne (by omega)]
theorem kIs_2lt {x : Int32} (h : kIs x 2 = true) : x.toNatClampNeg < 2 := by
  rw [kIs_2] at h
  obtain ⟨k, _, hk, _, e⟩ := mIn_k (m := 0) (n := 1) rfl rfl (by decide) (by decide) h
  omega
theorem fk_type {σ : gSt} {a0 : Int32} {t : Nat} {c : Nat} (h : 96 ≤ c) : kS_type σ a0 t c = σ c := by
  unfold kS_type; split
  · split
    · rw [gu_ne (by omega), gu_ne (by omega)]
    · rfl
  · rfl
theorem fk_clear {σ : gSt} {c : Nat} (h : 96 ≤ c) : kS_clear σ  c = σ c := by
  rw [kS_clear, gu_ne (by omega)]
theorem fk_town {σ : gSt} {t : Nat} {c : Nat} (h : 96 ≤ c) : kS_town σ t c = σ c := by
  unfold kS_town; split
  · show kT2 (kRead σ t).1 c = σ c
    rw [kT2_ne (by omega) (by omega), kRead_ne (by omega)]
  · rw [kRead_ne (by omega)]
theorem fk_person {σ : gSt} {a0 : Int32} {a1 : Int32} {D : Nat} {N : Nat} {c : Nat} (h : 96 ≤ c) : kS_person σ a0 a1 D N c = σ c := rfl
theorem fk_duty {σ : gSt} {a0 : Int32} {a1 : Int32} {D : Nat} {c : Nat} (h : 96 ≤ c) : kS_duty σ a0 a1 D c = σ c := rfl
theorem fk_now {σ : gSt} {a0 : Int32} {D : Nat} {N : Nat} {mi : Nat} {c : Nat} (h : 96 ≤ c) : kS_now σ a0 D N mi c = σ c := rfl
theorem fk_goes {σ : gSt} {a0 : Int32} {a1 : Int32} {N : Nat} {j : Nat} {u : Nat} {c : Nat} (hj : j < 10) (h : 96 ≤ c) : kS_goes σ a0 a1 N j u c = σ c := by
  unfold kS_goes; split
  · split
    · rfl
    · rw [gu_ne (by omega), gu_ne (by omega), kRem_96 hj h]
  · rfl
theorem fk_passes {σ : gSt} {a0 : Int32} {D : Nat} {N : Nat} {j : Nat} {u : Nat} {c : Nat} (hj : j < 10) (h : 96 ≤ c) : kS_passes σ a0 D N j u c = σ c := by
  unfold kS_passes; split
  · split
    · rw [kPassS_ne (by omega) (by omega) (by omega), kRem_96 hj h]
    · rfl
  · rfl
theorem fk_excuses {σ : gSt} {a0 : Int32} {a1 : Int32} {D : Nat} {j : Nat} {u : Nat} {c : Nat} (hj : j < 10) (h : 96 ≤ c) : kS_excuses σ a0 a1 D j u c = σ c := by
  unfold kS_excuses; split
  · split
    · rfl
    · rw [gu_ne (by omega), kRem_96 hj h]
  · rfl
theorem fk_swaps {σ : gSt} {a0 : Int32} {a1 : Int32} {D : Nat} {j : Nat} {u : Nat} {c : Nat} (hj : j < 10) (h : 96 ≤ c) : kS_swaps σ a0 a1 D j u c = σ c := by
  unfold kS_swaps; split
  · split
    · rfl
    · rw [gu_ne (by omega), gu_ne (by omega), kRem_96 hj h]
  · rfl
theorem fk_undo {σ : gSt} {j : Nat} {u : Nat} {c : Nat} (h : 96 ≤ c) : kS_undo σ j u c = σ c := by
  exact kRes_96 h
theorem fk_rings {σ : gSt} {a0 : Int32} {D : Nat} {c : Nat} (h : 96 ≤ c) : kS_rings σ a0 D c = σ c := rfl
theorem fk_chord {σ : gSt} {a0 : Int32} {a1 : Int32} {D : Nat} {mi : Nat} {c : Nat} (h : 96 ≤ c) : kS_chord σ a0 a1 D mi c = σ c := rfl
theorem fk_silence {σ : gSt} {a0 : Int32} {D : Nat} {N : Nat} {mi : Nat} {o : Nat} {c : Nat} (h : 96 ≤ c) : kS_silence σ a0 D N mi o c = σ c := by
  unfold kS_silence; split
  · rw [sNoteS, gu_ne (by omega), va_up, if_neg (by omega)]
  · rfl
theorem fk_least {σ : gSt} {a0 : Int32} {a1 : Int32} {D : Nat} {N : Nat} {wk : Nat} {P : Nat} {mi : Nat} {c : Nat} (h : 96 ≤ c) : kS_least σ a0 a1 D N wk P mi c = σ c := by
  unfold kS_least; split
  · rw [kWS_ne (by omega) (by omega) (by omega)]
  · rfl
theorem fk_hears {σ : gSt} {a0 : Int32} {a1 : Int32} {a2 : Int32} {hd : Nat} {c : Nat} (h : 96 ≤ c) : kS_hears σ a0 a1 a2 hd c = σ c := by
  unfold kS_hears; split
  · split
    · rw [gu_ne (by omega), gu_ne (by omega), gu_ne (by omega), gu_ne (by omega)]
    · rfl
  · rfl
theorem fk_forget {σ : gSt} {c : Nat} (h : 96 ≤ c) : kS_forget σ  c = σ c := by
  rw [kS_forget, gu_ne (by omega)]
theorem fk_can {σ : gSt} {a0 : Int32} {hd : Nat} {D : Nat} {P : Nat} {c : Nat} (h : 96 ≤ c) : kS_can σ a0 hd D P c = σ c := rfl
theorem fk_tells {σ : gSt} {a0 : Int32} {a1 : Int32} {a2 : Int32} {D : Nat} {c : Nat} (h : 96 ≤ c) : kS_tells σ a0 a1 a2 D c = σ c := rfl
theorem fk_odds {σ : gSt} {a0 : Int32} {a1 : Int32} {a2 : Int32} {a3 : Int32} {D : Nat} {N : Nat} {c : Nat} (h : 96 ≤ c) : kS_odds σ a0 a1 a2 a3 D N c = σ c := rfl
theorem fk_rate {σ : gSt} {a0 : Int32} {a1 : Int32} {D : Nat} {c : Nat} (h : 96 ≤ c) : kS_rate σ a0 a1 D c = σ c := rfl
theorem fk_keep {σ : gSt} {a0 : Int32} {c : Nat} (h : 96 ≤ c) : kS_keep σ a0 c = σ c := by
  unfold kS_keep; split
  · next q =>
    have := kIs_2lt q
    rw [gu_ne (by omega), kTake_ne (by omega)]
  · rfl
theorem fk_back {σ : gSt} {a0 : Int32} {c : Nat} (h : 96 ≤ c) : kS_back σ a0 c = σ c := by
  unfold kS_back; split
  · split
    · rfl
    · rw [gu_ne (by omega), kTake_ne (by omega)]
  · rfl
theorem fk_count {σ : gSt} {a0 : Int32} {c : Nat} (h : 96 ≤ c) : kS_count σ a0 c = σ c := rfl
theorem fm_type {σ : gSt} {a0 : Int32} {t : Nat} {c : Nat} (h : c < 96) : mS_type σ a0 t c = σ c := by
  unfold mS_type; split
  · rw [gu_ne (by omega), gu_ne (by omega)]
  · rfl
theorem fm_clear {σ : gSt} {c : Nat} (h : c < 96) : mS_clear σ  c = σ c := by
  rw [mS_clear, gu_ne (by omega)]
theorem fm_town {σ : gSt} {t : Nat} {c : Nat} (h : c < 96) : mS_town σ t c = σ c := by
  unfold mS_town; split
  · rw [set_o (by omega), mFr_town.1 c (by omega)]
  · rw [mFr_town.1 c (by omega)]
theorem fm_person {σ : gSt} {a0 : Int32} {a1 : Int32} {D : Nat} {N : Nat} {c : Nat} (h : c < 96) : mS_person σ a0 a1 D N c = σ c := by
  unfold mS_person; split
  · exact mNowS_ne (by omega)
  · rfl
theorem fm_duty {σ : gSt} {a0 : Int32} {a1 : Int32} {D : Nat} {c : Nat} (h : c < 96) : mS_duty σ a0 a1 D c = σ c := rfl
theorem fm_now {σ : gSt} {a0 : Int32} {u : Nat} {D : Nat} {N : Nat} {mi : Nat} {c : Nat} (h : c < 96) : mS_now σ a0 u D N mi c = σ c := by
  unfold mS_now; split
  · exact mNowS_ne (by omega)
  · rfl
theorem fm_goes {σ : gSt} {a0 : Int32} {a1 : Int32} {N : Nat} {u : Nat} {c : Nat} (h : c < 96) : mS_goes σ a0 a1 N u c = σ c := by
  unfold mS_goes; split
  · split
    · rfl
    · rw [gu_ne (by omega), gu_ne (by omega), mNotes_ne (by omega) (by omega)]
  · rfl
theorem fm_passes {σ : gSt} {a0 : Int32} {D : Nat} {N : Nat} {u : Nat} {c : Nat} (h : c < 96) : mS_passes σ a0 D N u c = σ c := by
  unfold mS_passes; split
  · split
    · rw [mPassS_ne (by omega), mNowS_ne (by omega), mNotes_ne (by omega) (by omega)]
    · rfl
  · rfl
theorem fm_excuses {σ : gSt} {a0 : Int32} {a1 : Int32} {D : Nat} {u : Nat} {c : Nat} (h : c < 96) : mS_excuses σ a0 a1 D u c = σ c := by
  unfold mS_excuses; split
  · split
    · rfl
    · rw [gu_ne (by omega), mNotes_ne (by omega) (by omega)]
  · rfl
theorem fm_swaps {σ : gSt} {a0 : Int32} {a1 : Int32} {D : Nat} {u : Nat} {c : Nat} (h : c < 96) : mS_swaps σ a0 a1 D u c = σ c := by
  unfold mS_swaps; split
  · split
    · rfl
    · rw [gu_ne (by omega), gu_ne (by omega), mNotes_ne (by omega) (by omega)]
  · rfl
theorem fm_undo {σ : gSt} {u : Nat} {c : Nat} (h : c < 96) : mS_undo σ u c = σ c := by
  unfold mS_undo; split
  · rfl
  · rw [gcp_ne (by omega), gu_ne (by omega)]
theorem fm_rings {σ : gSt} {a0 : Int32} {D : Nat} {N : Nat} {c : Nat} (h : c < 96) : mS_rings σ a0 D N c = σ c := by
  exact mNowS_ne (by omega)
theorem fm_chord {σ : gSt} {a0 : Int32} {a1 : Int32} {D : Nat} {N : Nat} {mi : Nat} {c : Nat} (h : c < 96) : mS_chord σ a0 a1 D N mi c = σ c := by
  unfold mS_chord; split
  · exact mNowS_ne (by omega)
  · rfl
theorem fm_silence {σ : gSt} {a0 : Int32} {D : Nat} {N : Nat} {mi : Nat} {c : Nat} (h : c < 96) : mS_silence σ a0 D N mi c = σ c := by
  unfold mS_silence; split
  · rw [gu_ne (by omega)]
  · rfl
theorem fm_least {σ : gSt} {a0 : Int32} {a1 : Int32} {D : Nat} {N : Nat} {wk : Nat} {P : Nat} {mi : Nat} {c : Nat} (h : c < 96) : mS_least σ a0 a1 D N wk P mi c = σ c := by
  unfold mS_least; split
  · split
    · rfl
    · rw [va_up, if_neg (by omega), mNowS_ne (by omega)]
  · rfl
theorem fm_hears {σ : gSt} {a0 : Int32} {a1 : Int32} {a2 : Int32} {hd : Nat} {c : Nat} (h : c < 96) : mS_hears σ a0 a1 a2 hd c = σ c := by
  unfold mS_hears; split
  · split
    · rfl
    · rw [gu_ne (by omega), gu_ne (by omega), gu_ne (by omega), gu_ne (by omega)]
  · rfl
theorem fm_forget {σ : gSt} {c : Nat} (h : c < 96) : mS_forget σ  c = σ c := by
  rw [mS_forget, gu_ne (by omega)]
theorem fm_can {σ : gSt} {a0 : Int32} {hd : Nat} {D : Nat} {P : Nat} {c : Nat} (h : c < 96) : mS_can σ a0 hd D P c = σ c := by
  unfold mS_can; split
  · exact mNowS_ne (by omega)
  · rfl
theorem fm_tells {σ : gSt} {a0 : Int32} {a1 : Int32} {a2 : Int32} {D : Nat} {c : Nat} (h : c < 96) : mS_tells σ a0 a1 a2 D c = σ c := by
  unfold mS_tells; split
  · exact mNowS_ne (by omega)
  · rfl
theorem fm_odds {σ : gSt} {a0 : Int32} {a1 : Int32} {a2 : Int32} {a3 : Int32} {D : Nat} {N : Nat} {c : Nat} (h : c < 96) : mS_odds σ a0 a1 a2 a3 D N c = σ c := by
  unfold mS_odds; split
  · rw [gu_ne (by omega)]
  · rfl
theorem fm_rate {σ : gSt} {a0 : Int32} {a1 : Int32} {D : Nat} {c : Nat} (h : c < 96) : mS_rate σ a0 a1 D c = σ c := rfl
theorem fm_keep {σ : gSt} {a0 : Int32} {c : Nat} (h : c < 96) : mS_keep σ a0 c = σ c := by
  unfold mS_keep; split
  · rw [gu_ne (by omega), gcp_ne (by omega)]
  · rfl
theorem fm_back {σ : gSt} {a0 : Int32} {c : Nat} (h : c < 96) : mS_back σ a0 c = σ c := by
  unfold mS_back; split
  · split
    · rfl
    · rw [gu_ne (by omega), gcp_ne (by omega)]
  · rfl
theorem fm_count {σ : gSt} {a0 : Int32} {c : Nat} (h : c < 96) : mS_count σ a0 c = σ c := rfl
