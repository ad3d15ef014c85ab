/-! ===== making: worlds that grow at their end ===== -/
def nX (U : State) : Prop := va_AO "AbsentBells$Moment" U ∧ va_Nw (.methodLinkNest RX9 9 yX6_init RX9) U ∧ va_Nw (.methodLinkNest RX6 17 yX4_init RX9) U ∧ va_Nw (.methodLinkNest RX9 18 yX0_init RX9) U ∧ va_Nw (.methodLinkNest RX0 11 yX4_init RX9) U ∧ va_Nw (.methodLinkNest RX0 20 yX3_init RX9) U ∧ va_Nw (.methodLinkNest RX2 17 yX3_init RX9) U ∧ va_Nw (.methodLinkNest RX9 32 yX1_init RX9) U ∧ va_Nw (.methodLinkNest RX9 39 yX8_init RX9) U ∧ va_Nw (.methodLinkNest RX9 46 yX7_init RX9) U ∧ va_Nw (.methodLinkNest RX9 53 yX5_init RX9) U ∧ va_Nw (.methodLinkNest RX9 64 yX3_init RX9) U
theorem nX_warm {s U : State} (hW : s.WarmedH U.vm) (h : nX s) : nX U := ⟨va_AO.moved hW.alike h.1, va_Nw.warmM hW h.2.1, va_Nw.warmM hW h.2.2.1, va_Nw.warmM hW h.2.2.2.1, va_Nw.warmM hW h.2.2.2.2.1, va_Nw.warmM hW h.2.2.2.2.2.1, va_Nw.warmM hW h.2.2.2.2.2.2.1, va_Nw.warmM hW h.2.2.2.2.2.2.2.1, va_Nw.warmM hW h.2.2.2.2.2.2.2.2.1, va_Nw.warmM hW h.2.2.2.2.2.2.2.2.2.1, va_Nw.warmM hW h.2.2.2.2.2.2.2.2.2.2.1, va_Nw.warmM hW h.2.2.2.2.2.2.2.2.2.2.2⟩
theorem nX_same {s U : State} (hW : s.vm = U.vm) (h : nX s) : nX U := ⟨va_AO.moved (by rw [hW]; exact Vm.Alike.refl _) h.1, va_Nw.same rfl hW h.2.1, va_Nw.same rfl hW h.2.2.1, va_Nw.same rfl hW h.2.2.2.1, va_Nw.same rfl hW h.2.2.2.2.1, va_Nw.same rfl hW h.2.2.2.2.2.1, va_Nw.same rfl hW h.2.2.2.2.2.2.1, va_Nw.same rfl hW h.2.2.2.2.2.2.2.1, va_Nw.same rfl hW h.2.2.2.2.2.2.2.2.1, va_Nw.same rfl hW h.2.2.2.2.2.2.2.2.2.1, va_Nw.same rfl hW h.2.2.2.2.2.2.2.2.2.2.1, va_Nw.same rfl hW h.2.2.2.2.2.2.2.2.2.2.2⟩
def nP (G : gG) (ws : va_W) (U : State) : Prop := (∀ q, U.heap.size ≤ q → gA G q) ∧ va_P G.1 vwCl ws U.heap ∧ va_K G.1 vwCl (gty G) U ∧ va_D (gA G) ws ∧ gNest U ∧ nX U
def nW (G : gG) (s : State) (wr l : va_W) (H : Heap) (locs : List Loc) : Prop := va_P G.1 vwCl (wr ++ l) H ∧ va_D (gA G) (wr ++ l) ∧ va_S (gA G) s.heap H locs
theorem nP_blind (G : gG) (ws : va_W) (As : List Value) : FrameBlind (va_Pc As (nP G ws)) := by
  intro a U g mk q
  obtain ⟨q0, qA, qP, qK, qD, qN, qX⟩ := q
  exact ⟨q0, qA, qP, va_K.moved (u := U) (U := U.calling g mk a) (Vm.Alike.refl U.vm) qK, qD, gNest_same (s := U) (U := U.calling g mk a) rfl qN, nX_same (s := U) (U := U.calling g mk a) rfl qX⟩
theorem nW_r {G : gG} {s : State} {wr lp l : va_W} {H : Heap} {locs : List Loc} : nW G s (wr ++ lp) l H locs ↔ nW G s wr (lp ++ l) H locs := by
  unfold nW; rw [List.append_assoc]
def nR (fr lo mc ms : Nat) : Room := { frames := fr, cells := mc, slots := ms, locals := lo }
/-- a constructor's contract: the world wr ++ l0 becomes wr ++ nl -/
def nV (l : Launch) (y : MethodName) (cc : ByteArray) (nL : Nat) (fr lo mc ms : Nat) (G : gG) (wr : va_W) (b : Nat) (l0 : va_W) (post : va_W → Prop) : Prop :=
  Met l y (Cond.code y cc nL none :: gAll) (nR fr lo mc ms) (va_Pc [.ref b] (nP G (wr ++ l0))) (va_Qv post (fun nl => nP G (wr ++ nl)) (gA G)) mc ms (gA G)
theorem nMet_of {l : Launch} {y : MethodName} {cc : ByteArray} {nL fr lo mc ms : Nat} {G : gG} {wr : va_W} {b : Nat} {l0 : va_W} {Qc : Array Value → State → Outcome → State → Prop} (hy : plainName y.cls = true) (hn : 1 ≤ nL)
    (body : ∀ (p : Program) (e : Env) (s : State) (m : MethodId) (args : Array Value) (below : List Frame) (meth : Method) (c : Code), gCx p s m args c G cc nL y.cls → nX s → (∀ q, s.heap.size ≤ q → gA G q) → meth.sig.returnType = none → meth.locks = false → meth.name = y.name → ∀ ls : Array Slot, lv_has ls nL [(0, .ref b)] → nW G s wr l0 s.heap [] →
      W p l e (nR fr lo mc ms) s m args below meth c s.heap [] 0 0 (MQ below Qc args s mc ms (gA G)) (F0 m 0 ls [])) : Met l y (Cond.code y cc nL none :: gAll) (nR fr lo mc ms) (va_Pc [.ref b] (nP G (wr ++ l0))) Qc mc ms (gA G) := by
  refine Met.ofW (cc := cc) (maxL := nL) (ret := none) hy rfl ?_
  intro p e s m args below meth c s₁ B hml hv
  obtain ⟨rfl, hA, hP, hK, hD, hN, hX⟩ := hv
  have hts := atoms_spec (ws := Cond.code y cc nL none :: gAll) B.pre
  rw [lg_entry_eq]
  exact body p e s m _ below meth c ⟨B.exec, B.bytes, hml, findClass_of_methodNamed B.named, fun w hw => hts w (List.mem_cons_of_mem _ hw), hK, hN⟩ hX hA B.returns B.notSynchronized (name_of_methodNamed B.named B.method).1 _ (lv_entry [.ref b] hn) ⟨hP, hD, va_S.rf⟩
theorem n_at {α : Type} {wr l : List α} {k : Nat} {x : α} (h : l[k]? = some x) : (wr ++ l)[wr.length + k]? = some x := by
  rw [List.getElem?_append_right (by omega), Nat.add_sub_cancel_left]; exact h
theorem n_set {α : Type} {wr l : List α} {k : Nat} {x : α} : (wr ++ l).set (wr.length + k) x = wr ++ l.set k x := by
  rw [List.set_append_right _ _ (by omega), Nat.add_sub_cancel_left]
theorem n_mid {α : Type} {l1 l2 : List α} {x : α} : (l1 ++ x :: l2)[l1.length]? = some x := by simp
section NROWS
variable {p : Program} {l0 : Launch} {e : Env} {R : Room} {s : State} {m : MethodId} {args : Array Value} {below : List Frame} {meth : Method} {c : Code} {H : Heap} {locs : List Loc} {cells slots : Nat} {Q : State → Prop}
variable {cc : ByteArray} {pc nL : Nat} {ls : Array Slot} {rest : List Value} {G : gG} {wr l : va_W} {own : String} {a : Nat}
theorem n_obj {index : Nat} (C : gCx p s m args c G cc nL own) (hsz : ls.size = nL) (hlink : Cond.methodLink own index objectInit ∈ gAll) (hfr : 1 ≤ R.frames) (hlo : (rest.map fun v => v.category).sum + 12 ≤ R.locals) (hdg : decode cc pc = .ok (.invokespecial index, 3))
    (kk : W p l0 e R s m args below meth c H locs cells slots Q (F0 m (pc + 3) ls rest)) : W p l0 e R s m args below meth c H locs cells slots Q (F0 m pc ls (.ref a :: rest)) := by
  refine W.objInit C.1 C.2.1 C.2.2.2.1 (C.2.2.2.2.1 _ hlink) (C.2.2.2.2.1 _ kin_oi) (C.2.2.2.2.1 _ kco_oi) rfl (by rw [C.2.2.1]; exact hsz) rfl hdg hfr ?_ (W.eq (g2 := F0 m (pc + 3) ls rest) rfl kk)
  show 2 * 0 + _ + 12 ≤ _
  omega
theorem n_putF {Cn : String} {T : u_T} {N ci index q0 : Nat} {fs : List Value} {v : Value} {ty : FieldType} (C : gCx p s m args c G cc nL own) (hin2 : meth.name = "<init>") (hW : nW G s wr l H locs) (he : l[q0]? = some (a, .inr (ci, fs))) (hc : vwCl[ci]? = some (Cn, T, N)) (hin : ∀ w ∈ u_ws Cn T N, w ∈ gAll)
    (ty0 : Nat → FieldType) (hty : ∀ k, k < N → parseFieldDescriptor (T k).2.2.1 = some (ty0 k)) (hnm : ∀ a, a < N → ∀ b, b < N → a ≠ b → (T a).2.1 ≠ (T b).2.1) (k : Nat) (hk : k < N) (h1 : (T k).1 = Cn) (h2 : (T k).1 = own)
    (hlink : Cond.fieldLink own index Cn (T k).2.1 (T k).2.2.1 ∈ gAll) (hfin : (T k).2.2.2 = true) (hd : parseFieldDescriptor (T k).2.2.1 = some ty) (hn : narrow ty v = v) (hfit : fits ty v = true) (hl : k < fs.length) (hdg : decode cc pc = .ok (.putfield index, 3))
    (kk : ∀ (H1 : Heap) (locs1 : List Loc), nW G s wr (l.set q0 (a, .inr (ci, fs.set k v))) H1 locs1 → W p l0 e R s m args below meth c H1 locs1 cells slots Q (F0 m (pc + 3) ls rest)) : W p l0 e R s m args below meth c H locs cells slots Q (F0 m pc ls (v :: .ref a :: rest)) := by
  refine va_putF (D := G.1) (ci := ci) (v := v) (ty := ty) (C := Cn) (T := T) (N := N) C.1 C.2.1 C.2.2.2.2.1 hin ty0 hty hnm C.2.2.2.1 C.2.2.2.2.2.1 hW.1 hW.2.1 hW.2.2 (wr.length + q0) (n_at he) hc k hk (C.2.2.2.2.1 _ hlink) (fun x hx => by rw [← h1]; exact hx) hfin hin2 h2 hd hn hfit hl hdg (fun H1 locs1 hP hD hS => ?_)
  rw [n_set] at hP hD
  exact kk H1 locs1 ⟨hP, hD, hS⟩
theorem n_put {Cn : String} {T : u_T} {N ci index q0 : Nat} {fs : List Value} {v : Value} {ty : FieldType} (C : gCx p s m args c G cc nL own) (hW : nW G s wr l H locs) (he : l[q0]? = some (a, .inr (ci, fs))) (hc : vwCl[ci]? = some (Cn, T, N)) (hin : ∀ w ∈ u_ws Cn T N, w ∈ gAll)
    (ty0 : Nat → FieldType) (hty : ∀ k, k < N → parseFieldDescriptor (T k).2.2.1 = some (ty0 k)) (hnm : ∀ a, a < N → ∀ b, b < N → a ≠ b → (T a).2.1 ≠ (T b).2.1) (k : Nat) (hk : k < N) (h1 : (T k).1 = Cn)
    (hlink : Cond.fieldLink own index Cn (T k).2.1 (T k).2.2.1 ∈ gAll) (hfin : (T k).2.2.2 = false) (hd : parseFieldDescriptor (T k).2.2.1 = some ty) (hn : narrow ty v = v) (hfit : fits ty v = true) (hl : k < fs.length) (hdg : decode cc pc = .ok (.putfield index, 3))
    (kk : ∀ (H1 : Heap) (locs1 : List Loc), nW G s wr (l.set q0 (a, .inr (ci, fs.set k v))) H1 locs1 → W p l0 e R s m args below meth c H1 locs1 cells slots Q (F0 m (pc + 3) ls rest)) : W p l0 e R s m args below meth c H locs cells slots Q (F0 m pc ls (v :: .ref a :: rest)) := by
  refine va_put (D := G.1) (ci := ci) (v := v) (ty := ty) (C := Cn) (T := T) (N := N) C.1 C.2.1 C.2.2.2.2.1 hin ty0 hty hnm C.2.2.2.1 C.2.2.2.2.2.1 hW.1 hW.2.1 hW.2.2 (wr.length + q0) (n_at he) hc k hk (C.2.2.2.2.1 _ hlink) (fun x hx => by rw [← h1]; exact hx) hfin hd hn hfit hl hdg (fun H1 locs1 hP hD hS => ?_)
  rw [n_set] at hP hD
  exact kk H1 locs1 ⟨hP, hD, hS⟩
theorem n_get {Cn : String} {T : u_T} {N ci index q0 : Nat} {fs : List Value} {v : Value} (C : gCx p s m args c G cc nL own) (hW : nW G s wr l H locs) (he : l[q0]? = some (a, .inr (ci, fs))) (hc : vwCl[ci]? = some (Cn, T, N)) (hin : ∀ w ∈ u_ws Cn T N, w ∈ gAll) (k : Nat) (hk : k < N) (h1 : (T k).1 = Cn)
    (hlink : Cond.fieldLink own index Cn (T k).2.1 (T k).2.2.1 ∈ gAll) (hv : fs[k]? = some v) (hdg : decode cc pc = .ok (.getfield index, 3))
    (kk : W p l0 e R s m args below meth c H locs cells slots Q (F0 m (pc + 3) ls (v :: rest))) : W p l0 e R s m args below meth c H locs cells slots Q (F0 m pc ls (.ref a :: rest)) :=
  va_get (D := G.1) (ci := ci) (v := v) (C := Cn) (T := T) (N := N) C.1 C.2.1 C.2.2.2.2.1 hin C.2.2.2.1 C.2.2.2.2.2.1 hW.1 (wr.length + q0) (n_at he) hc k hk (C.2.2.2.2.1 _ hlink) (fun x hx => by rw [← h1]; exact hx) hv hdg kk
theorem n_newI {n : Int32} {N' : Nat} (C : gCx p s m args c G cc nL own) (hA : ∀ q, s.heap.size ≤ q → gA G q) (hW : nW G s wr l H locs) (hn : n = nI N') (hsm : N' < 2 ^ 20) (hcells : cells + 1 ≤ R.cells) (hslots : slots + N' ≤ R.slots) (hdg : decode cc pc = .ok (.newarray .int, 2))
    (kk : ∀ (q : Nat) (H1 : Heap), nW G s wr (l ++ [(q, .inl (G.2.1.1, N', .inl (fun _ => 0)))]) H1 locs → W p l0 e R s m args below meth c H1 locs (cells + 1) (slots + N') Q (F0 m (pc + 2) ls (.ref q :: rest))) : W p l0 e R s m args below meth c H locs cells slots Q (F0 m pc ls (.int n :: rest)) := by
  subst hn
  refine va_newa (D := G.1) (atype := .int) (ty := .int) (a0 := (N', .inl (fun _ => 0))) C.1 C.2.1 (C.2.2.2.2.1 _ kac_int) rfl C.2.2.2.2.2.1 hW.1 hW.2.1 hW.2.2 hA (fun _ => rfl) (nI_pos (by omega)) (nI_clamp (by omega)) (by show N' * 4 ≤ _; omega) hcells hslots hdg (fun q cA H1 hK hP hD hS => ?_)
  have e : cA = G.2.1.1 := Option.some.inj ((hK.2 3 (cA, .int) rfl).2.symm.trans (C.2.2.2.2.2.1.2 0 (G.2.1.1, .int) rfl).2)
  subst e
  rw [List.append_assoc] at hP hD
  exact kk q H1 ⟨hP, hD, hS⟩
theorem n_newZ {n : Int32} {N' : Nat} (C : gCx p s m args c G cc nL own) (hA : ∀ q, s.heap.size ≤ q → gA G q) (hW : nW G s wr l H locs) (hn : n = nI N') (hsm : N' < 2 ^ 20) (hcells : cells + 1 ≤ R.cells) (hslots : slots + N' ≤ R.slots) (hdg : decode cc pc = .ok (.newarray .boolean, 2))
    (kk : ∀ (q : Nat) (H1 : Heap), nW G s wr (l ++ [(q, .inl (G.2.1.2.1, N', .inl (fun _ => 0)))]) H1 locs → W p l0 e R s m args below meth c H1 locs (cells + 1) (slots + N') Q (F0 m (pc + 2) ls (.ref q :: rest))) : W p l0 e R s m args below meth c H locs cells slots Q (F0 m pc ls (.int n :: rest)) := by
  subst hn
  refine va_newa (D := G.1) (atype := .boolean) (ty := .boolean) (a0 := (N', .inl (fun _ => 0))) C.1 C.2.1 (C.2.2.2.2.1 _ kac_boolean) rfl C.2.2.2.2.2.1 hW.1 hW.2.1 hW.2.2 hA (fun _ => rfl) (nI_pos (by omega)) (nI_clamp (by omega)) (by show N' * 1 ≤ _; omega) hcells hslots hdg (fun q cA H1 hK hP hD hS => ?_)
  have e : cA = G.2.1.2.1 := Option.some.inj ((hK.2 3 (cA, .boolean) rfl).2.symm.trans (C.2.2.2.2.2.1.2 1 (G.2.1.2.1, .boolean) rfl).2)
  subst e
  rw [List.append_assoc] at hP hD
  exact kk q H1 ⟨hP, hD, hS⟩
theorem n_newQ {n : Int32} {N' index : Nat} (C : gCx p s m args c G cc nL own) (hX : nX s) (hA : ∀ q, s.heap.size ≤ q → gA G q) (hW : nW G s wr l H locs) (hcl : Cond.classLink own index RX3 ∈ gAll) (hn : n = nI N') (hsm : N' < 2 ^ 20) (hcells : cells + 1 ≤ R.cells) (hslots : slots + N' ≤ R.slots) (hdg : decode cc pc = .ok (.anewarray index, 3))
    (kk : ∀ (q : Nat) (H1 : Heap), nW G s wr (l ++ [(q, .inl (G.2.1.2.2, N', .inr (.inr (.inr (.inr (fun _ => none))))))]) H1 locs → W p l0 e R s m args below meth c H1 locs (cells + 1) (slots + N') Q (F0 m (pc + 3) ls (.ref q :: rest))) : W p l0 e R s m args below meth c H locs cells slots Q (F0 m pc ls (.int n :: rest)) := by
  subst hn
  refine va_newq (D := G.1) (C := RX3) C.1 C.2.1 C.2.2.2.1 (C.2.2.2.2.1 _ hcl) hX.1 C.2.2.2.2.2.1 hW.1 hW.2.1 hW.2.2 hA (nI_pos (by omega)) (nI_clamp (by omega)) (by omega) hcells hslots hdg (fun q cA H1 hK hP hD hS => ?_)
  have e : cA = G.2.1.2.2 := by
    obtain ⟨_, _, -, -, -, e1⟩ := (hK.2 3 (cA, .object RX3) rfl).2
    obtain ⟨_, _, -, -, -, e2⟩ := (C.2.2.2.2.2.1.2 2 (G.2.1.2.2, .object RX3) rfl).2
    exact Option.some.inj (e1.symm.trans e2)
  subst e
  rw [List.append_assoc] at hP hD
  exact kk q H1 ⟨hP, hD, hS⟩
theorem n_new {Cn : String} {T : u_T} {N ci index : Nat} {fs : List Value} (C : gCx p s m args c G cc nL own) (hA : ∀ q, s.heap.size ≤ q → gA G q) (hW : nW G s wr l H locs) (hin : ∀ w ∈ u_ws Cn T N, w ∈ gAll) (ty0 : Nat → FieldType) (hty : ∀ k, k < N → parseFieldDescriptor (T k).2.2.1 = some (ty0 k)) (hcl : Cond.classLink own index Cn ∈ gAll) (hins : Cond.instantiable Cn N ∈ gAll) (hini : Cond.initialized Cn ∈ gAll)
    (hc : vwCl[ci]? = some (Cn, T, N)) (hfs : ∀ j, j < N → defaultValue (ty0 j) = vp_V fs j) (hcells : cells + 1 ≤ R.cells) (hslots : slots + N ≤ R.slots) (hdg : decode cc pc = .ok (.new index, 3))
    (kk : ∀ (q : Nat) (H1 : Heap), nW G s wr (l ++ [(q, .inr (ci, fs))]) H1 locs → W p l0 e R s m args below meth c H1 locs (cells + 1) (slots + N) Q (F0 m (pc + 3) ls (.ref q :: rest))) : W p l0 e R s m args below meth c H locs cells slots Q (F0 m pc ls rest) := by
  refine va_new (D := G.1) (ci := ci) (fs := fs) (C := Cn) (T := T) (N := N) C.1 C.2.1 C.2.2.2.2.1 hin ty0 hty C.2.2.2.1 (C.2.2.2.2.1 _ hcl) (C.2.2.2.2.1 _ hins) (C.2.2.2.2.1 _ hini) C.2.2.2.2.2.1 hW.1 hW.2.1 hW.2.2 hA hc hfs hcells hslots hdg (fun q H1 hP hD hS => ?_)
  rw [List.append_assoc] at hP hD
  exact kk q H1 ⟨hP, hD, hS⟩
theorem n_astq {q0 qk n v : Nat} {i : Int32} {vs : List Value} {f : Nat → Option Nat} (C : gCx p s m args c G cc nL own) (hW : nW G s wr l H locs) (ha : l[q0]? = some (a, .inl (G.2.1.2.2, n, .inr (.inr (.inr (.inr f)))))) (hv : l[qk]? = some (v, .inr (3, vs))) (hin : vp_in i n) (hdg : decode cc pc = .ok (.aastore, 1))
    (kk : ∀ (H1 : Heap) (locs1 : List Loc), nW G s wr (l.set q0 (a, .inl (G.2.1.2.2, n, .inr (.inr (.inr (.inr (va_up f i.toNatClampNeg (some v)))))))) H1 locs1 → W p l0 e R s m args below meth c H1 locs1 cells slots Q (F0 m (pc + 1) ls rest)) : W p l0 e R s m args below meth c H locs cells slots Q (F0 m pc ls (.ref v :: .int i :: .ref a :: rest)) := by
  refine va_astq (D := G.1) C.1 C.2.1 C.2.2.2.2.2.1 hW.1 hW.2.1 hW.2.2 (wr.length + q0) 2 (wr.length + qk) 3 (n_at ha) (r := (RX3, TX3, 6)) rfl (n_at hv) rfl hin hdg (fun H1 locs1 hP hD hS => ?_)
  rw [n_set] at hP hD
  exact kk H1 locs1 ⟨hP, hD, hS⟩
theorem nP_of (hW : nW G s wr l H locs) (C : gCx p s m args c G cc nL own) (hX : nX s) (hA : ∀ q, s.heap.size ≤ q → gA G q) {t : State} (ht : t.heap = H) (hw : s.WarmedH t.vm) : nP G (wr ++ l) t :=
  ⟨fun q hq => hA q (Nat.le_trans hW.2.2.1 (by rw [← ht]; exact hq)), by rw [ht]; exact hW.1, va_K.moved hw.alike C.2.2.2.2.2.1, hW.2.1, gNest_warm hw C.2.2.2.2.2.2, nX_warm hw hX⟩
theorem n_callI {y : MethodName} {cy : ByteArray} {ny index fr lo mc ms : Nat} {post : va_W → Prop} (C : gCx p s m args c G cc nL own) (hX : nX s) (hA : ∀ q, s.heap.size ≤ q → gA G q) (hW : nW G s wr l H locs) (hM : nV l0 y cy ny fr lo mc ms G wr a l post) (hlk : Cond.methodLink own index y ∈ gAll) (hco : Cond.code y cy ny none ∈ gAll) (hini : Cond.initialized y.cls ∈ gAll) (him : Cond.instanceMethod y ∈ gAll) (hy1 : y.name = "<init>")
    (hd : y.cls ≠ "java/lang/invoke/MethodHandle" ∧ y.cls ≠ "java/lang/invoke/VarHandle" ∧ (parseMethodDescriptor y.desc).map (fun d => d.parameters.length) = some 0) (hR : fr + 1 ≤ R.frames ∧ 8 + (ny + 11) + lo ≤ R.locals) (hf : cells + mc ≤ R.cells ∧ slots + ms ≤ R.slots) (hsz : ls.size = nL) (hrm : (rest.map fun v => v.category).sum ≤ 8) (hdg : decode cc pc = .ok (.invokespecial index, 3))
    (kk : ∀ (nl : va_W) (H1 : Heap) (locs1 : List Loc), post nl → nW G s wr nl H1 locs1 → W p l0 e R s m args below meth c H1 locs1 (cells + mc) (slots + ms) Q (F0 m (pc + 3) ls rest)) : W p l0 e R s m args below meth c H locs cells slots Q (F0 m pc ls (.ref a :: rest)) := by
  refine va_callv (A0 := gA G) (A1 := gA G) (va_runI (As := []) (rest := rest) (⟨C.1, C.2.1, C.2.2.1, C.2.2.2.1, C.2.2.2.2.1⟩ : CallFix p m c cc nL s args gAll own) hM (cwI 0 C.2.2.2.2.1 (gGood fun w hw => (List.mem_cons.mp hw).elim (fun e => e ▸ hco) id) rfl rfl rfl (C.2.2.2.2.1 _ hini) (C.2.2.2.2.1 _ hlk) (C.2.2.2.2.1 _ him) hy1 hd hR) ⟨nP_blind G _ _, fun U hU hw => ⟨rfl, nP_of hW C hX hA hU hw⟩⟩ rfl rfl hsz rfl (lv_room hrm) hdg hf) hW.2.2 (fun _ _ h => h) (fun _ h => h) (fun nl t H1 locs1 ht hvm hp hB hz1 hk1 hS => ?_)
  exact kk nl H1 locs1 hp ⟨by rw [← ht]; exact hB.2.1, hB.2.2.2.1, hS⟩
theorem n_callN {y : MethodName} {host : String} {cy : ByteArray} {ny index fr lo mc ms : Nat} {post : va_W → Prop} (hnl : va_Nw (.methodLinkNest own index y host) s) (C : gCx p s m args c G cc nL own) (hX : nX s) (hA : ∀ q, s.heap.size ≤ q → gA G q) (hW : nW G s wr l H locs) (hM : nV l0 y cy ny fr lo mc ms G wr a l post) (hco : Cond.code y cy ny none ∈ gAll) (hini : Cond.initialized y.cls ∈ gAll) (him : Cond.instanceMethod y ∈ gAll) (hy1 : y.name = "<init>")
    (hd : y.cls ≠ "java/lang/invoke/MethodHandle" ∧ y.cls ≠ "java/lang/invoke/VarHandle" ∧ (parseMethodDescriptor y.desc).map (fun d => d.parameters.length) = some 0) (hR : fr + 1 ≤ R.frames ∧ 8 + (ny + 11) + lo ≤ R.locals) (hf : cells + mc ≤ R.cells ∧ slots + ms ≤ R.slots) (hsz : ls.size = nL) (hrm : (rest.map fun v => v.category).sum ≤ 8) (hdg : decode cc pc = .ok (.invokespecial index, 3))
    (kk : ∀ (nl : va_W) (H1 : Heap) (locs1 : List Loc), post nl → nW G s wr nl H1 locs1 → W p l0 e R s m args below meth c H1 locs1 (cells + mc) (slots + ms) Q (F0 m (pc + 3) ls rest)) : W p l0 e R s m args below meth c H locs cells slots Q (F0 m pc ls (.ref a :: rest)) := by
  refine va_callv (A0 := gA G) (A1 := gA G) (va_runIN (As := []) (rest := rest) (⟨C.1, C.2.1, C.2.2.1, C.2.2.2.1, C.2.2.2.2.1⟩ : CallFix p m c cc nL s args gAll own) hM ⟨va_cnB 0 C.2.2.2.2.1 (gGood fun w hw => (List.mem_cons.mp hw).elim (fun e => e ▸ hco) id) rfl rfl rfl hnl (C.2.2.2.2.1 _ hini) hd hR, hy1, C.2.2.2.2.1 _ him⟩ ⟨nP_blind G _ _, fun U hU hw => ⟨rfl, nP_of hW C hX hA hU hw⟩⟩ rfl rfl hsz rfl (lv_room hrm) hdg hf) hW.2.2 (fun _ _ h => h) (fun _ h => h) (fun nl t H1 locs1 ht hvm hp hB hz1 hk1 hS => ?_)
  exact kk nl H1 locs1 hp ⟨by rw [← ht]; exact hB.2.1, hB.2.2.2.1, hS⟩
theorem n_ret {mc ms : Nat} {post : va_W → Prop} (C : gCx p s m args c G cc nL own) (hX : nX s) (hA : ∀ q, s.heap.size ≤ q → gA G q) (hr : meth.sig.returnType = none) (hlk : meth.locks = false) (hW : nW G s wr l H locs) (hp : post l) (h1 : cells ≤ mc) (h2 : slots ≤ ms) (hdg : decode cc pc = .ok (.return_, 1)) :
    W p l0 e R s m args below meth c H locs cells slots (MQ below (va_Qv post (fun nl => nP G (wr ++ nl)) (gA G)) args s mc ms (gA G)) (F0 m pc ls []) := by
  refine W.widen (k := mc) (n := ms) h1 h2 ?_
  exact W.vret C.1 C.2.1 hr (fun t ht hw => ⟨⟨l, rfl, hp, nP_of hW C hX hA ht hw⟩, hW.2.2.F ht⟩) hW.2.2.2.2 hdg hlk
end NROWS
