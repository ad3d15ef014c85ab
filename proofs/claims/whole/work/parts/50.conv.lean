/-! ===== the cells that were made are the one world ===== -/
def bModel (G : gG) (md : Nat → Nat) : va_W := [(md 96, .inr (10, [.int 0, .long 0, .ref (md 97), .int 0, .int 0, .int 0, .int 0, .int 0, .int 0, .ref (md 98), .int 0, .ref (md 99), .ref (md 100), .ref (md 101), .ref (md 102), .ref (md 103), .ref (md 104), .ref (md 105), .ref (md 106), .ref (md 107), .int 0, .ref (md 108), .ref (md 109), .ref (md 110), .int 0, .int 0, .ref (md 111)])), (md 97, .inl (G.2.1.1, 200, .inl (fun _ => 0))), (md 98, .inl (G.2.1.1, 10, .inl (fun _ => 0))), (md 99, .inl (G.2.1.1, 10, .inl (fun _ => 0))), (md 100, .inl (G.2.1.1, 8, .inl (fun _ => 0))), (md 101, .inl (G.2.1.1, 16, .inl (fun _ => 0))), (md 102, .inl (G.2.1.1, 16, .inl (fun _ => 0))), (md 103, .inl (G.2.1.1, 16, .inl (fun _ => 0))), (md 104, .inl (G.2.1.1, 25, .inl (fun _ => 0))), (md 105, .inl (G.2.1.1, 50, .inl (fun _ => 0))), (md 106, .inl (G.2.1.2.1, 2, .inl (fun _ => 0))), (md 107, .inl (G.2.1.1, 250, .inl (fun _ => 0))), (md 108, .inl (G.2.1.1, 6, .inl (fun _ => 0))), (md 109, .inl (G.2.1.1, 6, .inl (fun _ => 0))), (md 110, .inl (G.2.1.1, 6, .inl (fun _ => 0))), (md 111, .inl (G.2.1.1, 1446, .inl (fun _ => 0)))]
def gAdd (G : gG) (ad : Nat → Nat) : gG := (G.1, G.2.1, ad, G.2.2.2)
def st0 : gSt := fun c => if c = 3 then (fun k => if k = 0 then 2 else if k = 3 then 2 else if k = 4 then 3 else 0) else if c = 10 then (fun k => if k = 0 then 2 else if k = 3 then 2 else if k = 4 then 3 else 0) else if c = 1 then (fun k => if k = 3 then -9 else 0) else fun _ => 0
def ta0 : Nat → Int64 := fun _ => 0
def adA (ad md : Nat → Nat) (ch cm : Nat → Nat → Nat) : Nat → Nat := fun i => if i < 23 then ad i else if i < 73 then ch ((i - 23) / 5) ((i - 23) % 5) else if i < 85 then ad i else if i < 95 then cm ((i - 85) / 5) ((i - 85) % 5) else if i < 96 then ad i else md i
theorem vaP_q {D : va_G} {cl : List vw_C} {ws : va_W} {H : Heap} {k a n : Nat} {cA : ClassId} {f g : Nat → Option Nat} (h : va_P D cl ws H) (hk : ws[k]? = some (a, .inl (cA, n, .inr (.inr (.inr (.inr f)))))) (hfg : ∀ j, j < n → f j = g j) : va_P D cl (ws.set k (a, .inl (cA, n, .inr (.inr (.inr (.inr g)))))) H := by
  intro i q hq
  rw [List.getElem?_set] at hq
  split at hq
  · split at hq
    · cases hq
      have := h k _ hk
      show H[a]? = some (vp_cell cA (n, .inr (.inr (.inr (.inr g)))))
      have e : vp_cell cA (n, .inr (.inr (.inr (.inr f)))) = vp_cell cA (n, .inr (.inr (.inr (.inr g)))) := by
        rw [vp_cell_q, vp_cell_q]
        unfold arrV
        congr 1
        congr 1
        funext j
        show va_rf (f j.val) = va_rf (g j.val)
        rw [hfg j.val j.isLt]
      rw [← e]; exact this
    · cases hq
  · exact h i q hq
theorem adA_ch {ad md : Nat → Nat} {ch cm : Nat → Nat → Nat} {j : Nat} (h : j < 10) : adA ad md ch cm (22 + 1 + 5 * j) = ch j 0 := by
  unfold adA
  rw [if_neg (by omega), if_pos (by omega), show (22 + 1 + 5 * j - 23) / 5 = j by omega, show (22 + 1 + 5 * j - 23) % 5 = 0 by omega]
theorem adA_cm {ad md : Nat → Nat} {ch cm : Nat → Nat → Nat} {j : Nat} (h : j < 2) : adA ad md ch cm (84 + 1 + 5 * j) = cm j 0 := by
  unfold adA
  rw [if_neg (by omega), if_neg (by omega), if_neg (by omega), if_pos (by omega), show (84 + 1 + 5 * j - 85) / 5 = j by omega, show (84 + 1 + 5 * j - 85) % 5 = 0 by omega]
set_option maxHeartbeats 4000000 in
set_option maxRecDepth 100000 in
theorem bells_gws (G : gG) (ad md : Nat → Nat) (ch cm : Nat → Nat → Nat) : ((bBells G ad ch cm ++ bModel G md).set 22 (ad 22, aQ G 10 (fun j => some (adA ad md ch cm (22 + 1 + 5 * j))))).set 84 (ad 84, aQ G 2 (fun j => some (adA ad md ch cm (84 + 1 + 5 * j)))) = gws (gAdd G (adA ad md ch cm)) st0 ta0 := by
  rfl
set_option maxHeartbeats 4000000 in
set_option maxRecDepth 100000 in
theorem bells_22 (G : gG) (ad md : Nat → Nat) (ch cm : Nat → Nat → Nat) : (bBells G ad ch cm ++ bModel G md)[22]? = some (ad 22, aQ G 10 (qoF ch 10)) := rfl
set_option maxHeartbeats 4000000 in
set_option maxRecDepth 100000 in
theorem bells_84 (G : gG) (ad md : Nat → Nat) (ch cm : Nat → Nat → Nat) : (bBells G ad ch cm ++ bModel G md)[84]? = some (ad 84, aQ G 2 (qoF cm 2)) := rfl
set_option maxHeartbeats 4000000 in
set_option maxRecDepth 100000 in
theorem to_gW {G : gG} {ad md : Nat → Nat} {ch cm : Nat → Nat → Nat} {s : State} {H : Heap} {locs : List Loc} (hW : nW G s (bBells G ad ch cm) (bModel G md) H locs) : gW (gAdd G (adA ad md ch cm)) s st0 ta0 H locs := by
  obtain ⟨hP, hD, hS⟩ := hW
  have k22 := bells_22 G ad md ch cm
  have k84 := bells_84 G ad md ch cm
  have E := bells_gws G ad md ch cm
  generalize bBells G ad ch cm ++ bModel G md = ws at hP hD k22 k84 E
  have hP1 := vaP_q (g := fun j => some (adA ad md ch cm (22 + 1 + 5 * j))) hP k22 (fun j hj => by rw [adA_ch hj, qoF, if_pos hj])
  have hD1 := hD.set (e := aQ G 10 (fun j => some (adA ad md ch cm (22 + 1 + 5 * j)))) k22
  have k84 : (ws.set 22 (ad 22, aQ G 10 (fun j => some (adA ad md ch cm (22 + 1 + 5 * j)))))[84]? = some (ad 84, aQ G 2 (qoF cm 2)) := by
    rw [List.getElem?_set_ne (by decide)]; exact k84
  have hP2 := vaP_q (g := fun j => some (adA ad md ch cm (84 + 1 + 5 * j))) hP1 k84 (fun j hj => by rw [adA_cm hj, qoF, if_pos hj])
  have hD2 := hD1.set (e := aQ G 2 (fun j => some (adA ad md ch cm (84 + 1 + 5 * j)))) k84
  rw [E] at hP2 hD2
  exact ⟨hP2, hD2, hS⟩
