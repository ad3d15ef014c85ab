/-! ===== the one world: all cells of the class and of the reference, by numbers ===== -/
/-- tables' numbers; classes of int[], boolean[], Moment[]; the cells' addresses; which cells may change -/
abbrev gG : Type := va_G × (ClassId × ClassId × ClassId) × (Nat → Nat) × (Nat → Prop)
/-- a state: what stands in a cell's place -/
abbrev gSt : Type := Nat → Nat → Int32
def gAd (G : gG) (i : Nat) : Nat := G.2.2.1 i
def gA (G : gG) : Nat → Prop := G.2.2.2
def gty (G : gG) : List (ClassId × FieldType) := [(G.2.1.1, .int), (G.2.1.2.1, .boolean), (G.2.1.2.2, .object "AbsentBells$Moment")]
def gkinds : List Nat := [9, 6, 11, 4, 11, 11, 11, 11, 11, 0, 4, 11, 11, 11, 11, 11, 3, 11, 11, 11, 11, 2, 13, 3, 11, 11, 11, 11, 3, 11, 11, 11, 11, 3, 11, 11, 11, 11, 3, 11, 11, 11, 11, 3, 11, 11, 11, 11, 3, 11, 11, 11, 11, 3, 11, 11, 11, 11, 3, 11, 11, 11, 11, 3, 11, 11, 11, 11, 3, 11, 11, 11, 11, 1, 11, 11, 11, 8, 11, 11, 11, 7, 11, 5, 13, 3, 11, 11, 11, 11, 3, 11, 11, 11, 11, 12, 10, 11, 11, 11, 11, 11, 11, 11, 11, 11, 12, 11, 11, 11, 11, 11]
def glens : List Nat := [0, 0, 200, 0, 5, 8, 8, 8, 8, 0, 0, 5, 8, 8, 8, 8, 0, 5, 5, 5, 8, 0, 10, 0, 5, 5, 5, 8, 0, 5, 5, 5, 8, 0, 5, 5, 5, 8, 0, 5, 5, 5, 8, 0, 5, 5, 5, 8, 0, 5, 5, 5, 8, 0, 5, 5, 5, 8, 0, 5, 5, 5, 8, 0, 5, 5, 5, 8, 0, 5, 5, 5, 8, 0, 6, 6, 6, 0, 240, 241, 1446, 0, 240, 0, 2, 0, 5, 5, 5, 8, 0, 5, 5, 5, 8, 2, 0, 200, 10, 10, 8, 16, 16, 16, 25, 50, 2, 250, 6, 6, 6, 1446]
def gkind (i : Nat) : Nat := gkinds.getD i 99
def glen (i : Nat) : Nat := glens.getD i 0
def gF0 (G : gG) (i : Nat) (f : Nat → Int32) (t : Int64) : List Value := [.ref (gAd G (i + 1)), .ref (gAd G (i + 7))]
def gF1 (G : gG) (i : Nat) (f : Nat → Int32) (t : Int64) : List Value := [.int (f 0), .ref (gAd G (i + 1)), .ref (gAd G (i + 2)), .ref (gAd G (i + 3))]
def gF2 (G : gG) (i : Nat) (f : Nat → Int32) (t : Int64) : List Value := [.ref (gAd G (i + 1)), .int (f 1), .int (f 2)]
def gF3 (G : gG) (i : Nat) (f : Nat → Int32) (t : Int64) : List Value := [.int (f 0), .int (f 1), .ref (gAd G (i + 1)), .ref (gAd G (i + 2)), .ref (gAd G (i + 3)), .ref (gAd G (i + 4))]
def gF4 (G : gG) (i : Nat) (f : Nat → Int32) (t : Int64) : List Value := [.int (f 0), .int (f 1), .int (f 2), .int (f 3), .int (f 4), .ref (gAd G (i + 1)), .ref (gAd G (i + 2)), .ref (gAd G (i + 3)), .ref (gAd G (i + 4)), .ref (gAd G (i + 5))]
def gF5 (G : gG) (i : Nat) (f : Nat → Int32) (t : Int64) : List Value := [.long t]
def gF6 (G : gG) (i : Nat) (f : Nat → Int32) (t : Int64) : List Value := [.ref (gAd G (i + 1)), .int (f 1), .ref (gAd G (i + 2)), .int (f 3), .int (f 4), .int (f 5), .int (f 6), .int (f 7), .int (f 8), .int (f 9)]
def gF7 (G : gG) (i : Nat) (f : Nat → Int32) (t : Int64) : List Value := [.ref (gAd G (i + 1)), .int (f 1)]
def gF8 (G : gG) (i : Nat) (f : Nat → Int32) (t : Int64) : List Value := [.ref (gAd G (i + 1)), .ref (gAd G (i + 2)), .ref (gAd G (i + 3))]
def gF9 (G : gG) (i : Nat) (f : Nat → Int32) (t : Int64) : List Value := [.ref (gAd G (i + 1)), .ref (gAd G (i + 9)), .ref (gAd G (i + 21)), .ref (gAd G (i + 73)), .ref (gAd G (i + 77)), .ref (gAd G (i + 81)), .ref (gAd G (i + 83)), .ref (gAd G (i + 84)), .ref (gAd G (i + 95))]
def gF10 (G : gG) (i : Nat) (f : Nat → Int32) (t : Int64) : List Value := [.int 0, .long t, .ref (gAd G (i + 1)), .int (f 3), .int (f 4), .int (f 5), .int (f 6), .int (f 7), .int (f 8), .ref (gAd G (i + 2)), .int (f 10), .ref (gAd G (i + 3)), .ref (gAd G (i + 4)), .ref (gAd G (i + 5)), .ref (gAd G (i + 6)), .ref (gAd G (i + 7)), .ref (gAd G (i + 8)), .ref (gAd G (i + 9)), .ref (gAd G (i + 10)), .ref (gAd G (i + 11)), .int (f 20), .ref (gAd G (i + 12)), .ref (gAd G (i + 13)), .ref (gAd G (i + 14)), .int (f 24), .int (f 25), .ref (gAd G (i + 15))]
def gL (G : gG) (i : Nat) (f : Nat → Int32) (t : Int64) : va_E :=
  if gkind i = 0 then .inr (0, gF0 G i f t) else if gkind i = 1 then .inr (1, gF1 G i f t) else if gkind i = 2 then .inr (2, gF2 G i f t) else if gkind i = 3 then .inr (3, gF3 G i f t) else if gkind i = 4 then .inr (4, gF4 G i f t) else if gkind i = 5 then .inr (5, gF5 G i f t) else if gkind i = 6 then .inr (6, gF6 G i f t) else if gkind i = 7 then .inr (7, gF7 G i f t) else if gkind i = 8 then .inr (8, gF8 G i f t) else if gkind i = 9 then .inr (9, gF9 G i f t) else if gkind i = 10 then .inr (10, gF10 G i f t) else if gkind i = 11 then .inl (G.2.1.1, glen i, .inl f) else if gkind i = 12 then .inl (G.2.1.2.1, glen i, .inl f) else .inl (G.2.1.2.2, glen i, .inr (.inr (.inr (.inr (fun j => some (gAd G (i + 1 + 5 * j)))))))
theorem gL_0 {G : gG} {i : Nat} {f : Nat → Int32} {t : Int64} (h : gkind i = 0) : gL G i f t = .inr (0, gF0 G i f t) := by simp [gL, h]
theorem gL_1 {G : gG} {i : Nat} {f : Nat → Int32} {t : Int64} (h : gkind i = 1) : gL G i f t = .inr (1, gF1 G i f t) := by simp [gL, h]
theorem gL_2 {G : gG} {i : Nat} {f : Nat → Int32} {t : Int64} (h : gkind i = 2) : gL G i f t = .inr (2, gF2 G i f t) := by simp [gL, h]
theorem gL_3 {G : gG} {i : Nat} {f : Nat → Int32} {t : Int64} (h : gkind i = 3) : gL G i f t = .inr (3, gF3 G i f t) := by simp [gL, h]
theorem gL_4 {G : gG} {i : Nat} {f : Nat → Int32} {t : Int64} (h : gkind i = 4) : gL G i f t = .inr (4, gF4 G i f t) := by simp [gL, h]
theorem gL_5 {G : gG} {i : Nat} {f : Nat → Int32} {t : Int64} (h : gkind i = 5) : gL G i f t = .inr (5, gF5 G i f t) := by simp [gL, h]
theorem gL_6 {G : gG} {i : Nat} {f : Nat → Int32} {t : Int64} (h : gkind i = 6) : gL G i f t = .inr (6, gF6 G i f t) := by simp [gL, h]
theorem gL_7 {G : gG} {i : Nat} {f : Nat → Int32} {t : Int64} (h : gkind i = 7) : gL G i f t = .inr (7, gF7 G i f t) := by simp [gL, h]
theorem gL_8 {G : gG} {i : Nat} {f : Nat → Int32} {t : Int64} (h : gkind i = 8) : gL G i f t = .inr (8, gF8 G i f t) := by simp [gL, h]
theorem gL_9 {G : gG} {i : Nat} {f : Nat → Int32} {t : Int64} (h : gkind i = 9) : gL G i f t = .inr (9, gF9 G i f t) := by simp [gL, h]
theorem gL_10 {G : gG} {i : Nat} {f : Nat → Int32} {t : Int64} (h : gkind i = 10) : gL G i f t = .inr (10, gF10 G i f t) := by simp [gL, h]
theorem gL_11 {G : gG} {i : Nat} {f : Nat → Int32} {t : Int64} (h : gkind i = 11) : gL G i f t = .inl (G.2.1.1, glen i, .inl f) := by simp [gL, h]
theorem gL_12 {G : gG} {i : Nat} {f : Nat → Int32} {t : Int64} (h : gkind i = 12) : gL G i f t = .inl (G.2.1.2.1, glen i, .inl f) := by simp [gL, h]
theorem gL_13 {G : gG} {i : Nat} {f : Nat → Int32} {t : Int64} (h : gkind i = 13) : gL G i f t = .inl (G.2.1.2.2, glen i, .inr (.inr (.inr (.inr (fun j => some (gAd G (i + 1 + 5 * j))))))) := by simp [gL, h]
def gws (G : gG) (σ : gSt) (τ : Nat → Int64) : va_W := (List.range 112).map (fun i => (gAd G i, gL G i (σ i) (τ i)))
theorem gws_at {G : gG} {σ : gSt} {τ : Nat → Int64} {i : Nat} (hi : i < 112) : (gws G σ τ)[i]? = some (gAd G i, gL G i (σ i) (τ i)) := by
  simp [gws, hi]
theorem gws_set {G : gG} {σ : gSt} {τ : Nat → Int64} {i : Nat} (hi : i < 112) (f : Nat → Int32) (t : Int64) : (gws G σ τ).set i (gAd G i, gL G i f t) = gws G (va_up σ i f) (va_up τ i t) := by
  refine List.ext_getElem? fun k => ?_
  rcases Nat.lt_or_ge k 112 with hk | hk
  · rw [gws_at hk]
    by_cases e : i = k
    · subst e
      rw [List.getElem?_set_self (by simp [gws, hi])]
      simp [va_up]
    · rw [List.getElem?_set_ne e, gws_at hk]
      simp [va_up, Ne.symm e]
  · rw [List.getElem?_eq_none (by simp [gws, hk]), List.getElem?_eq_none (by simp [gws, hk])]
/-- one place of one cell changes -/
def gu (σ : gSt) (i k : Nat) (x : Int32) : gSt := va_up σ i (upd (σ i) k x)
theorem gup_self {α : Type} (f : Nat → α) (k : Nat) : va_up f k (f k) = f := by
  funext j
  unfold va_up
  split
  · next h => rw [h]
  · rfl
def gW (G : gG) (s : State) (σ : gSt) (τ : Nat → Int64) (H : Heap) (locs : List Loc) : Prop := va_P G.1 vwCl (gws G σ τ) H ∧ va_D (gA G) (gws G σ τ) ∧ va_S (gA G) s.heap H locs
def gNest (U : State) : Prop := va_Nw (.methodLinkNest RX0 36 yX9_bit RX9) U ∧ va_Nw (.methodLinkNest RX7 45 yX9_bit RX9) U ∧ va_Nw (.methodLinkNest RX5 61 yX9_bit RX9) U
theorem gNest_warm {s U : State} (hW : s.WarmedH U.vm) (h : gNest s) : gNest U := ⟨va_Nw.warmM hW h.1, va_Nw.warmM hW h.2.1, va_Nw.warmM hW h.2.2⟩
theorem gNest_same {s U : State} (hW : s.vm = U.vm) (h : gNest s) : gNest U := ⟨va_Nw.same rfl hW h.1, va_Nw.same rfl hW h.2.1, va_Nw.same rfl hW h.2.2⟩
def gP (G : gG) (σ : gSt) (τ : Nat → Int64) (U : State) : Prop := va_P G.1 vwCl (gws G σ τ) U.heap ∧ va_K G.1 vwCl (gty G) U ∧ va_D (gA G) (gws G σ τ) ∧ gNest U
def gCx (p : Program) (s : State) (m : MethodId) (args : Array Value) (c : Code) (G : gG) (cc : ByteArray) (nL : Nat) (own : String) : Prop :=
  p.tables.exec = Jvm.exec ∧ c.code = cc ∧ c.maxLocals = nL ∧ s.vm.findClass own = some m.cls ∧ (∀ w ∈ gAll, w.before args s = true) ∧ va_K G.1 vwCl (gty G) s ∧ gNest s
theorem gP_blind (G : gG) (σ : gSt) (τ : Nat → Int64) (As : List Value) : FrameBlind (va_Pc As (gP G σ τ)) := by
  intro a U g mk q
  obtain ⟨q0, qP, qK, qD, qN⟩ := q
  exact ⟨q0, qP, va_K.moved (u := U) (U := U.calling g mk a) (Vm.Alike.refl U.vm) qK, qD, gNest_same (s := U) (U := U.calling g mk a) rfl qN⟩
def gRm (fr lo : Nat) : Room := { frames := fr, cells := 0, slots := 0, locals := lo }
def gQi (G : gG) (r : Int32) (σ' : gSt) (τ' : Nat → Int64) : Array Value → State → Outcome → State → Prop := va_Qi (fun (r' : Int32) (u : gSt × (Nat → Int64)) => r' = r ∧ u = (σ', τ')) (fun u => gP G u.1 u.2) (gA G)
def gQl (G : gG) (r : Int64) (σ' : gSt) (τ' : Nat → Int64) : Array Value → State → Outcome → State → Prop := va_Ql (fun (r' : Int64) (u : gSt × (Nat → Int64)) => r' = r ∧ u = (σ', τ')) (fun u => gP G u.1 u.2) (gA G)
def gQv (G : gG) (σ' : gSt) (τ' : Nat → Int64) : Array Value → State → Outcome → State → Prop := va_Qv (fun (u : gSt × (Nat → Int64)) => u = (σ', τ')) (fun u => gP G u.1 u.2) (gA G)
/-- a contract: on the world σ, τ the method answers r and leaves σ', τ' -/
def gI (l : Launch) (y : MethodName) (cc : ByteArray) (nL : Nat) (ret : Option FieldType) (fr lo : Nat) (G : gG) (As : List Value) (σ : gSt) (τ : Nat → Int64) (r : Int32) (σ' : gSt) (τ' : Nat → Int64) : Prop :=
  Met l y (Cond.code y cc nL ret :: gAll) (gRm fr lo) (va_Pc As (gP G σ τ)) (gQi G r σ' τ') 0 0 (gA G)
def gJ (l : Launch) (y : MethodName) (cc : ByteArray) (nL : Nat) (ret : Option FieldType) (fr lo : Nat) (G : gG) (As : List Value) (σ : gSt) (τ : Nat → Int64) (r : Int64) (σ' : gSt) (τ' : Nat → Int64) : Prop :=
  Met l y (Cond.code y cc nL ret :: gAll) (gRm fr lo) (va_Pc As (gP G σ τ)) (gQl G r σ' τ') 0 0 (gA G)
def gV (l : Launch) (y : MethodName) (cc : ByteArray) (nL : Nat) (ret : Option FieldType) (fr lo : Nat) (G : gG) (As : List Value) (σ : gSt) (τ : Nat → Int64) (σ' : gSt) (τ' : Nat → Int64) : Prop :=
  Met l y (Cond.code y cc nL ret :: gAll) (gRm fr lo) (va_Pc As (gP G σ τ)) (gQv G σ' τ') 0 0 (gA G)
theorem gMet_of {l : Launch} {y : MethodName} {cc : ByteArray} {nL : Nat} {ret : Option FieldType} {fr lo : Nat} {G : gG} {As : List Value} {σ : gSt} {τ : Nat → Int64} {Qc : Array Value → State → Outcome → State → Prop} (hy : plainName y.cls = true) (hn : (lg_sl As).length ≤ nL)
    (body : ∀ (p : Program) (e : Env) (s : State) (m : MethodId) (args : Array Value) (below : List Frame) (meth : Method) (c : Code), gCx p s m args c G cc nL y.cls → meth.sig.returnType = ret → meth.locks = false → ∀ ls : Array Slot, lv_has ls nL (lv_args 0 As) → gW G s σ τ s.heap [] →
      W p l e (gRm fr lo) s m args below meth c s.heap [] 0 0 (MQ below Qc args s 0 0 (gA G)) (F0 m 0 ls [])) : Met l y (Cond.code y cc nL ret :: gAll) (gRm fr lo) (va_Pc As (gP G σ τ)) Qc 0 0 (gA G) := by
  refine Met.ofW (cc := cc) (maxL := nL) (ret := ret) hy rfl ?_
  intro p e s m args below meth c s₁ B hml hv
  obtain ⟨rfl, hP, hK, hD, hN⟩ := hv
  have hts := atoms_spec (ws := Cond.code y cc nL ret :: gAll) B.pre
  rw [lg_entry_eq]
  exact body p e s m _ below meth c ⟨B.exec, B.bytes, hml, findClass_of_methodNamed B.named, fun w hw => hts w (List.mem_cons_of_mem _ hw), hK, hN⟩ B.returns B.notSynchronized _ (lv_entry As hn) ⟨hP, hD, va_S.rf⟩
section GROWS
variable {p : Program} {l : Launch} {e : Env} {R : Room} {s : State} {m : MethodId} {args : Array Value} {below : List Frame} {meth : Method} {c : Code} {H : Heap} {locs : List Loc} {cells slots : Nat} {Q : State → Prop}
variable {cc : ByteArray} {pc nL : Nat} {ls : Array Slot} {rest : List Value} {G : gG} {σ σ1 σ' : gSt} {τ τ1 τ' : Nat → Int64} {own : String}
theorem gP_of (hW : gW G s σ τ H locs) (C : gCx p s m args c G cc nL own) {t : State} (ht : t.heap = H) (hw : s.WarmedH t.vm) : gP G σ τ t :=
  ⟨by rw [ht]; exact hW.1, va_K.moved hw.alike C.2.2.2.2.2.1, hW.2.1, gNest_warm hw C.2.2.2.2.2.2⟩
theorem g_iret {r v : Int32} (C : gCx p s m args c G cc nL own) (hr : meth.sig.returnType = some .int) (hlk : meth.locks = false) (hW : gW G s σ1 τ1 H locs) (hd : decode cc pc = .ok (.ireturn, 1)) (hv : v = r) (hs : σ1 = σ') (ht : τ1 = τ') :
    W p l e R s m args below meth c H locs 0 0 (MQ below (gQi G r σ' τ') args s 0 0 (gA G)) (F0 m pc ls [.int v]) := by
  subst hv; subst hs; subst ht
  exact W.iret C.1 C.2.1 hr (fun t ht hw => ⟨⟨v, (σ1, τ1), rfl, ⟨rfl, rfl⟩, gP_of hW C ht hw⟩, hW.2.2.F ht⟩) hW.2.2.2.2 hd hlk
theorem g_zret {r v : Int32} (C : gCx p s m args c G cc nL own) (hr : meth.sig.returnType = some .boolean) (hlk : meth.locks = false) (hW : gW G s σ1 τ1 H locs) (hd : decode cc pc = .ok (.ireturn, 1)) (hn : narrow .boolean (.int v) = .int v) (hv : v = r) (hs : σ1 = σ') (ht : τ1 = τ') :
    W p l e R s m args below meth c H locs 0 0 (MQ below (gQi G r σ' τ') args s 0 0 (gA G)) (F0 m pc ls [.int v]) := by
  subst hv; subst hs; subst ht
  exact W.zret C.1 C.2.1 hr hn (fun t ht hw => ⟨⟨v, (σ1, τ1), rfl, ⟨rfl, rfl⟩, gP_of hW C ht hw⟩, hW.2.2.F ht⟩) hW.2.2.2.2 hd hlk
theorem g_lret {r v : Int64} (C : gCx p s m args c G cc nL own) (hr : meth.sig.returnType = some .long) (hlk : meth.locks = false) (hW : gW G s σ1 τ1 H locs) (hd : decode cc pc = .ok (.lreturn, 1)) (hv : v = r) (hs : σ1 = σ') (ht : τ1 = τ') :
    W p l e R s m args below meth c H locs 0 0 (MQ below (gQl G r σ' τ') args s 0 0 (gA G)) (F0 m pc ls [.long v]) := by
  subst hv; subst hs; subst ht
  exact W.lret C.1 C.2.1 hr (fun t ht hw => ⟨⟨v, (σ1, τ1), rfl, ⟨rfl, rfl⟩, gP_of hW C ht hw⟩, hW.2.2.F ht⟩) hW.2.2.2.2 hd hlk
theorem g_vret (C : gCx p s m args c G cc nL own) (hr : meth.sig.returnType = none) (hlk : meth.locks = false) (hW : gW G s σ1 τ1 H locs) (hd : decode cc pc = .ok (.return_, 1)) (hs : σ1 = σ') (ht : τ1 = τ') :
    W p l e R s m args below meth c H locs 0 0 (MQ below (gQv G σ' τ') args s 0 0 (gA G)) (F0 m pc ls []) := by
  subst hs; subst ht
  exact W.vret C.1 C.2.1 hr (fun t ht hw => ⟨⟨(σ1, τ1), rfl, rfl, gP_of hW C ht hw⟩, hW.2.2.F ht⟩) hW.2.2.2.2 hd hlk
/-- getfield -/
theorem g_get {Cn : String} {T : u_T} {N ci index i : Nat} {fs : List Value} {v : Value} (C : gCx p s m args c G cc nL own) (hW : gW G s σ τ H locs) (hi : i < 112) (he : gL G i (σ i) (τ i) = .inr (ci, fs)) (hc : vwCl[ci]? = some (Cn, T, N)) (hin : ∀ w ∈ u_ws Cn T N, w ∈ gAll) (k : Nat) (hk : k < N) (h1 : (T k).1 = Cn)
    (hlink : Cond.fieldLink own index Cn (T k).2.1 (T k).2.2.1 ∈ gAll) (hv : fs[k]? = some v) (hdg : decode cc pc = .ok (.getfield index, 3))
    (kk : W p l e R s m args below meth c H locs cells slots Q (F0 m (pc + 3) ls (v :: rest))) : W p l e R s m args below meth c H locs cells slots Q (F0 m pc ls (.ref (gAd G i) :: rest)) :=
  va_get (D := G.1) (ci := ci) (v := v) (C := Cn) (T := T) (N := N) C.1 C.2.1 C.2.2.2.2.1 hin C.2.2.2.1 C.2.2.2.2.2.1 hW.1 i ((gws_at hi).trans (by rw [he])) hc k hk (C.2.2.2.2.1 _ hlink) (fun x hx => by rw [← h1]; exact hx) hv hdg kk
/-- putfield -/
theorem g_put {Cn : String} {T : u_T} {N ci index i : Nat} {fs : List Value} {v : Value} {ty : FieldType} {f' : Nat → Int32} {t' : Int64} (C : gCx p s m args c G cc nL own) (hW : gW G s σ τ H locs) (hi : i < 112) (he : gL G i (σ i) (τ i) = .inr (ci, fs)) (hc : vwCl[ci]? = some (Cn, T, N)) (hin : ∀ w ∈ u_ws Cn T N, w ∈ gAll)
    (ty0 : Nat → FieldType) (hty : ∀ k, k < N → parseFieldDescriptor (T k).2.2.1 = some (ty0 k)) (hnm : ∀ a, a < N → ∀ b, b < N → a ≠ b → (T a).2.1 ≠ (T b).2.1) (k : Nat) (hk : k < N) (h1 : (T k).1 = Cn)
    (hlink : Cond.fieldLink own index Cn (T k).2.1 (T k).2.2.1 ∈ gAll) (hfin : (T k).2.2.2 = false) (hd : parseFieldDescriptor (T k).2.2.1 = some ty) (hn : narrow ty v = v) (hfit : fits ty v = true) (hl : k < fs.length) (he' : gL G i f' t' = .inr (ci, fs.set k v)) (hdg : decode cc pc = .ok (.putfield index, 3))
    (kk : ∀ (H1 : Heap) (locs1 : List Loc), gW G s (va_up σ i f') (va_up τ i t') H1 locs1 → W p l e R s m args below meth c H1 locs1 cells slots Q (F0 m (pc + 3) ls rest)) : W p l e R s m args below meth c H locs cells slots Q (F0 m pc ls (v :: .ref (gAd G i) :: rest)) := by
  refine va_put (D := G.1) (ci := ci) (v := v) (ty := ty) (C := Cn) (T := T) (N := N) C.1 C.2.1 C.2.2.2.2.1 hin ty0 hty hnm C.2.2.2.1 C.2.2.2.2.2.1 hW.1 hW.2.1 hW.2.2 i ((gws_at hi).trans (by rw [he])) hc k hk (C.2.2.2.2.1 _ hlink) (fun x hx => by rw [← h1]; exact hx) hfin hd hn hfit hl hdg (fun H1 locs1 hP hD hS => ?_)
  rw [← he', gws_set hi] at hP hD
  exact kk H1 locs1 ⟨hP, hD, hS⟩
/-- iaload at a known place -/
theorem g_ald {i : Nat} {j v : Int32} (k : Nat) (C : gCx p s m args c G cc nL own) (hW : gW G s σ τ H locs) (hi : i < 112) (hk : gkind i = 11) (hj : j = nI k) (hlt : k < glen i) (hsm : glen i < 2 ^ 31) (hv : σ i k = v) (hdg : decode cc pc = .ok (.iaload, 1))
    (kk : W p l e R s m args below meth c H locs cells slots Q (F0 m (pc + 1) ls (.int v :: rest))) : W p l e R s m args below meth c H locs cells slots Q (F0 m pc ls (.int j :: .ref (gAd G i) :: rest)) := by
  subst hj
  refine va_iald (D := G.1) C.1 C.2.1 C.2.2.2.2.2.1 hW.1 i 0 ((gws_at hi).trans (by rw [gL_11 hk])) rfl (vp_in_nI hlt hsm) hdg ?_
  rw [nI_clamp (Nat.lt_trans hlt hsm), hv]
  exact kk
theorem g_zald {i : Nat} {j v : Int32} (k : Nat) (C : gCx p s m args c G cc nL own) (hW : gW G s σ τ H locs) (hi : i < 112) (hk : gkind i = 12) (hj : j = nI k) (hlt : k < glen i) (hsm : glen i < 2 ^ 31) (hv : σ i k = v) (hdg : decode cc pc = .ok (.baload, 1))
    (kk : W p l e R s m args below meth c H locs cells slots Q (F0 m (pc + 1) ls (.int v :: rest))) : W p l e R s m args below meth c H locs cells slots Q (F0 m pc ls (.int j :: .ref (gAd G i) :: rest)) := by
  subst hj
  refine va_zald (D := G.1) C.1 C.2.1 C.2.2.2.2.2.1 hW.1 i 1 ((gws_at hi).trans (by rw [gL_12 hk])) rfl (vp_in_nI hlt hsm) hdg ?_
  rw [nI_clamp (Nat.lt_trans hlt hsm), hv]
  exact kk
theorem g_aald {i : Nat} {j : Int32} (k : Nat) (C : gCx p s m args c G cc nL own) (hW : gW G s σ τ H locs) (hi : i < 112) (hk : gkind i = 13) (hj : j = nI k) (hlt : k < glen i) (hsm : glen i < 2 ^ 31) (hdg : decode cc pc = .ok (.aaload, 1))
    (kk : W p l e R s m args below meth c H locs cells slots Q (F0 m (pc + 1) ls (.ref (gAd G (i + 1 + 5 * k)) :: rest))) : W p l e R s m args below meth c H locs cells slots Q (F0 m pc ls (.int j :: .ref (gAd G i) :: rest)) := by
  subst hj
  refine va_aldq (D := G.1) C.1 C.2.1 C.2.2.2.2.2.1 hW.1 i 2 ((gws_at hi).trans (by rw [gL_13 hk])) rfl (vp_in_nI hlt hsm) hdg ?_
  rw [nI_clamp (Nat.lt_trans hlt hsm)]
  exact kk
theorem g_ast {i : Nat} {j x : Int32} (k : Nat) (C : gCx p s m args c G cc nL own) (hW : gW G s σ τ H locs) (hi : i < 112) (hk : gkind i = 11) (hj : j = nI k) (hlt : k < glen i) (hsm : glen i < 2 ^ 31) (hdg : decode cc pc = .ok (.iastore, 1))
    (kk : ∀ (H1 : Heap) (locs1 : List Loc), gW G s (gu σ i k x) τ H1 locs1 → W p l e R s m args below meth c H1 locs1 cells slots Q (F0 m (pc + 1) ls rest)) : W p l e R s m args below meth c H locs cells slots Q (F0 m pc ls (.int x :: .int j :: .ref (gAd G i) :: rest)) := by
  subst hj
  refine va_iast (D := G.1) C.1 C.2.1 C.2.2.2.2.2.1 hW.1 hW.2.1 hW.2.2 i 0 ((gws_at hi).trans (by rw [gL_11 hk])) rfl (vp_in_nI hlt hsm) hdg (fun H1 locs1 hP hD hS => ?_)
  rw [nI_clamp (Nat.lt_trans hlt hsm), ← gL_11 (t := τ i) hk, gws_set hi, gup_self] at hP hD
  exact kk H1 locs1 ⟨hP, hD, hS⟩
theorem g_zast {i : Nat} {j x : Int32} (k : Nat) (C : gCx p s m args c G cc nL own) (hW : gW G s σ τ H locs) (hi : i < 112) (hk : gkind i = 12) (hj : j = nI k) (hlt : k < glen i) (hsm : glen i < 2 ^ 31) (hx : vp_nar .boolean x = x) (hdg : decode cc pc = .ok (.bastore, 1))
    (kk : ∀ (H1 : Heap) (locs1 : List Loc), gW G s (gu σ i k x) τ H1 locs1 → W p l e R s m args below meth c H1 locs1 cells slots Q (F0 m (pc + 1) ls rest)) : W p l e R s m args below meth c H locs cells slots Q (F0 m pc ls (.int x :: .int j :: .ref (gAd G i) :: rest)) := by
  subst hj
  refine va_zast (D := G.1) C.1 C.2.1 C.2.2.2.2.2.1 hW.1 hW.2.1 hW.2.2 i 1 ((gws_at hi).trans (by rw [gL_12 hk])) rfl (vp_in_nI hlt hsm) hdg (fun H1 locs1 hP hD hS => ?_)
  rw [nI_clamp (Nat.lt_trans hlt hsm), hx, ← gL_12 (t := τ i) hk, gws_set hi, gup_self] at hP hD
  exact kk H1 locs1 ⟨hP, hD, hS⟩
/-- System.arraycopy of a whole row's first n places onto another's -/
theorem g_copy {i j index n : Nat} {nn : Int32} (C : gCx p s m args c G cc nL own) (hW : gW G s σ τ H locs) (hsz : ls.size = nL) (hlink : Cond.methodLink own index arraycopyName ∈ gAll) (hi : i < 112) (hj : j < 112) (hki : gkind i = 11) (hkj : gkind j = 11) (hnn : nn = nI n) (hni : n ≤ glen i) (hnj : n ≤ glen j) (hsm : n < 2 ^ 31)
    (hframes : 1 ≤ R.frames) (hlocals : (rest.map fun v => v.category).sum + (nativeFrameWords "java/lang/System" "arraycopy" 5 + 11) ≤ R.locals) (hdg : decode cc pc = .ok (.invokestatic index, 3))
    (kk : ∀ (H1 : Heap) (locs1 : List Loc), gW G s (va_up σ j (va_cpy (σ i) (σ j) 0 0 n)) τ H1 locs1 → W p l e R s m args below meth c H1 locs1 cells slots Q (F0 m (pc + 3) ls rest)) : W p l e R s m args below meth c H locs cells slots Q (F0 m pc ls (.int nn :: .int 0 :: .ref (gAd G j) :: .int 0 :: .ref (gAd G i) :: rest)) := by
  subst hnn
  have e0 : (0 : Int32).toNatClampNeg = 0 := rfl
  refine va_copyi (D := G.1) (ty := .int) C.1 C.2.1 (C.2.2.1.trans hsz.symm) C.2.2.2.1 (C.2.2.2.2.1 _ hlink) (C.2.2.2.2.1 _ kna_ac) (C.2.2.2.2.1 _ kst_ac) (C.2.2.2.2.1 _ kini_Sys) C.2.2.2.2.2.1 hW.1 hW.2.1 hW.2.2 i j 0 0 ((gws_at hi).trans (by rw [gL_11 hki])) ((gws_at hj).trans (by rw [gL_11 hkj])) rfl rfl rfl
    (by decide) (by decide) (nI_pos hsm) (by rw [e0, nI_clamp hsm]; omega) (by rw [e0, nI_clamp hsm]; omega) (fun _ _ => rfl) hframes hlocals hdg (fun H1 locs1 hP hD hS => ?_)
  rw [nI_clamp hsm, e0, ← gL_11 (t := τ j) hkj, gws_set hj, gup_self] at hP hD
  exact kk H1 locs1 ⟨hP, hD, hS⟩
theorem g_max {x y : Int32} {index : Nat} (C : gCx p s m args c G cc nL own) (hsz : ls.size = nL) (hlink : Cond.methodLink own index Lib.Math.max.name ∈ gAll) (hframes : 1 ≤ R.frames) (hlocals : (rest.map fun v => v.category).sum + 13 ≤ R.locals) (hc : cells ≤ R.cells) (hs : slots ≤ R.slots) (hdg : decode cc pc = .ok (.invokestatic index, 3))
    (kk : W p l e R s m args below meth c H locs cells slots Q (F0 m (pc + 3) ls (.int (if x < y then y else x) :: rest))) : W p l e R s m args below meth c H locs cells slots Q (F0 m pc ls (.int y :: .int x :: rest)) :=
  va_mmax C.1 C.2.1 (C.2.2.1.trans hsz.symm) C.2.2.2.1 (C.2.2.2.2.1 _ hlink) (C.2.2.2.2.1 _ kst_max) (C.2.2.2.2.1 _ kini_Math) (C.2.2.2.2.1 _ kco_max) hframes hlocals hc hs hdg kk
theorem g_min {x y : Int32} {index : Nat} (C : gCx p s m args c G cc nL own) (hsz : ls.size = nL) (hlink : Cond.methodLink own index Lib.Math.min.name ∈ gAll) (hframes : 1 ≤ R.frames) (hlocals : (rest.map fun v => v.category).sum + 13 ≤ R.locals) (hc : cells ≤ R.cells) (hs : slots ≤ R.slots) (hdg : decode cc pc = .ok (.invokestatic index, 3))
    (kk : W p l e R s m args below meth c H locs cells slots Q (F0 m (pc + 3) ls (.int (if y < x then y else x) :: rest))) : W p l e R s m args below meth c H locs cells slots Q (F0 m pc ls (.int y :: .int x :: rest)) :=
  va_mmin C.1 C.2.1 (C.2.2.1.trans hsz.symm) C.2.2.2.1 (C.2.2.2.2.1 _ hlink) (C.2.2.2.2.1 _ kst_min) (C.2.2.2.2.1 _ kini_Math) (C.2.2.2.2.1 _ kco_min) hframes hlocals hc hs hdg kk
theorem g_abs {x : Int32} {index : Nat} (C : gCx p s m args c G cc nL own) (hsz : ls.size = nL) (hlink : Cond.methodLink own index Lib.Math.abs.name ∈ gAll) (hframes : 1 ≤ R.frames) (hlocals : (rest.map fun v => v.category).sum + 13 ≤ R.locals) (hc : cells ≤ R.cells) (hs : slots ≤ R.slots) (hdg : decode cc pc = .ok (.invokestatic index, 3))
    (kk : W p l e R s m args below meth c H locs cells slots Q (F0 m (pc + 3) ls (.int (if 0 ≤ x then x else 0 - x) :: rest))) : W p l e R s m args below meth c H locs cells slots Q (F0 m pc ls (.int x :: rest)) :=
  va_mabs C.1 C.2.1 (C.2.2.1.trans hsz.symm) C.2.2.2.1 (C.2.2.2.2.1 _ hlink) (C.2.2.2.2.1 _ kst_abs) (C.2.2.2.2.1 _ kini_Math) (C.2.2.2.2.1 _ kco_abs) hframes hlocals hc hs hdg kk
theorem g_callvI {r : Int32} {y : MethodName} {cy : ByteArray} {ny n index fr lo : Nat} {ret : Option FieldType} {As st : List Value} {Cn : String} (C : gCx p s m args c G cc nL own) (hW : gW G s σ τ H locs) (ok : gVok own index Cn y cy ny ret n) (i : Nat) (hi : i < 112) {ci : Nat} {fs : List Value} {T : u_T} {N : Nat} (he : gL G i (σ i) (τ i) = .inr (ci, fs)) (hc : vwCl[ci]? = some (Cn, T, N)) (hM : gI l y cy ny ret fr lo G (.ref (gAd G i) :: As) σ τ r σ' τ') (hR : fr + 1 ≤ R.frames ∧ 8 + (ny + 11) + lo ≤ R.locals) (hf : cells ≤ R.cells ∧ slots ≤ R.slots) (hn : As.length = n) (hsz : ls.size = nL) (hst : st = As.reverse ++ .ref (gAd G i) :: rest) (hrm : (rest.map fun v => v.category).sum ≤ 8) (hdg : decode cc pc = .ok (.invokevirtual index, 3))
    (kk : ∀ (H1 : Heap) (locs1 : List Loc), gW G s σ' τ' H1 locs1 → W p l e R s m args below meth c H1 locs1 cells slots Q (F0 m (pc + 3) ls (.int r :: rest))) : W p l e R s m args below meth c H locs cells slots Q (F0 m pc ls st) := by
  subst hst
  refine va_calli (A0 := gA G) (A1 := gA G) (va_runV (As := As) (rest := rest) (⟨C.1, C.2.1, C.2.2.1, C.2.2.2.1, C.2.2.2.2.1⟩ : CallFix p m c cc nL s args gAll own) hM (cwV n C.2.2.2.2.1 ok.1 rfl rfl rfl ok.2 hR) ⟨gP_blind G σ τ _, va_recv C.2.2.2.2.2.1 hW.1 hc ((gws_at hi).trans (by rw [he])), fun U hU hw => ⟨rfl, gP_of hW C hU hw⟩⟩ rfl hn hsz rfl (lv_room hrm) hdg hf) hW.2.2 (fun _ _ h => h) (fun _ h => h) (fun r0 u t H1 locs1 ht hvm hw hB _ _ hS => ?_)
  obtain ⟨rfl, rfl⟩ := hw
  exact kk H1 locs1 ⟨by rw [← ht]; exact hB.1, hB.2.2.1, hS⟩
theorem g_callvJ {r : Int64} {y : MethodName} {cy : ByteArray} {ny n index fr lo : Nat} {ret : Option FieldType} {As st : List Value} {Cn : String} (C : gCx p s m args c G cc nL own) (hW : gW G s σ τ H locs) (ok : gVok own index Cn y cy ny ret n) (i : Nat) (hi : i < 112) {ci : Nat} {fs : List Value} {T : u_T} {N : Nat} (he : gL G i (σ i) (τ i) = .inr (ci, fs)) (hc : vwCl[ci]? = some (Cn, T, N)) (hM : gJ l y cy ny ret fr lo G (.ref (gAd G i) :: As) σ τ r σ' τ') (hR : fr + 1 ≤ R.frames ∧ 8 + (ny + 11) + lo ≤ R.locals) (hf : cells ≤ R.cells ∧ slots ≤ R.slots) (hn : As.length = n) (hsz : ls.size = nL) (hst : st = As.reverse ++ .ref (gAd G i) :: rest) (hrm : (rest.map fun v => v.category).sum ≤ 8) (hdg : decode cc pc = .ok (.invokevirtual index, 3))
    (kk : ∀ (H1 : Heap) (locs1 : List Loc), gW G s σ' τ' H1 locs1 → W p l e R s m args below meth c H1 locs1 cells slots Q (F0 m (pc + 3) ls (.long r :: rest))) : W p l e R s m args below meth c H locs cells slots Q (F0 m pc ls st) := by
  subst hst
  refine va_calll (A0 := gA G) (A1 := gA G) (va_runV (As := As) (rest := rest) (⟨C.1, C.2.1, C.2.2.1, C.2.2.2.1, C.2.2.2.2.1⟩ : CallFix p m c cc nL s args gAll own) hM (cwV n C.2.2.2.2.1 ok.1 rfl rfl rfl ok.2 hR) ⟨gP_blind G σ τ _, va_recv C.2.2.2.2.2.1 hW.1 hc ((gws_at hi).trans (by rw [he])), fun U hU hw => ⟨rfl, gP_of hW C hU hw⟩⟩ rfl hn hsz rfl (lv_room hrm) hdg hf) hW.2.2 (fun _ _ h => h) (fun _ h => h) (fun r0 u t H1 locs1 ht hvm hw hB _ _ hS => ?_)
  obtain ⟨rfl, rfl⟩ := hw
  exact kk H1 locs1 ⟨by rw [← ht]; exact hB.1, hB.2.2.1, hS⟩
theorem g_callvV {y : MethodName} {cy : ByteArray} {ny n index fr lo : Nat} {ret : Option FieldType} {As st : List Value} {Cn : String} (C : gCx p s m args c G cc nL own) (hW : gW G s σ τ H locs) (ok : gVok own index Cn y cy ny ret n) (i : Nat) (hi : i < 112) {ci : Nat} {fs : List Value} {T : u_T} {N : Nat} (he : gL G i (σ i) (τ i) = .inr (ci, fs)) (hc : vwCl[ci]? = some (Cn, T, N)) (hM : gV l y cy ny ret fr lo G (.ref (gAd G i) :: As) σ τ σ' τ') (hR : fr + 1 ≤ R.frames ∧ 8 + (ny + 11) + lo ≤ R.locals) (hf : cells ≤ R.cells ∧ slots ≤ R.slots) (hn : As.length = n) (hsz : ls.size = nL) (hst : st = As.reverse ++ .ref (gAd G i) :: rest) (hrm : (rest.map fun v => v.category).sum ≤ 8) (hdg : decode cc pc = .ok (.invokevirtual index, 3))
    (kk : ∀ (H1 : Heap) (locs1 : List Loc), gW G s σ' τ' H1 locs1 → W p l e R s m args below meth c H1 locs1 cells slots Q (F0 m (pc + 3) ls (rest))) : W p l e R s m args below meth c H locs cells slots Q (F0 m pc ls st) := by
  subst hst
  refine va_callv (A0 := gA G) (A1 := gA G) (va_runV (As := As) (rest := rest) (⟨C.1, C.2.1, C.2.2.1, C.2.2.2.1, C.2.2.2.2.1⟩ : CallFix p m c cc nL s args gAll own) hM (cwV n C.2.2.2.2.1 ok.1 rfl rfl rfl ok.2 hR) ⟨gP_blind G σ τ _, va_recv C.2.2.2.2.2.1 hW.1 hc ((gws_at hi).trans (by rw [he])), fun U hU hw => ⟨rfl, gP_of hW C hU hw⟩⟩ rfl hn hsz rfl (lv_room hrm) hdg hf) hW.2.2 (fun _ _ h => h) (fun _ h => h) (fun u t H1 locs1 ht hvm hw hB _ _ hS => ?_)
  obtain rfl := hw
  exact kk H1 locs1 ⟨by rw [← ht]; exact hB.1, hB.2.2.1, hS⟩
theorem g_callsI {r : Int32} {y : MethodName} {cy : ByteArray} {ny n index fr lo : Nat} {ret : Option FieldType} {As st : List Value} (C : gCx p s m args c G cc nL own) (hW : gW G s σ τ H locs) (ok : gSok own index y cy ny ret n) (hM : gI l y cy ny ret fr lo G As σ τ r σ' τ') (hR : fr + 1 ≤ R.frames ∧ 8 + (ny + 11) + lo ≤ R.locals) (hf : cells ≤ R.cells ∧ slots ≤ R.slots) (hn : As.length = n) (hsz : ls.size = nL) (hst : st = As.reverse ++ rest) (hrm : (rest.map fun v => v.category).sum ≤ 8) (hdg : decode cc pc = .ok (.invokestatic index, 3))
    (kk : ∀ (H1 : Heap) (locs1 : List Loc), gW G s σ' τ' H1 locs1 → W p l e R s m args below meth c H1 locs1 cells slots Q (F0 m (pc + 3) ls (.int r :: rest))) : W p l e R s m args below meth c H locs cells slots Q (F0 m pc ls st) := by
  subst hst
  refine va_calli (A0 := gA G) (A1 := gA G) (va_runS (As := As) (rest := rest) (⟨C.1, C.2.1, C.2.2.1, C.2.2.2.1, C.2.2.2.2.1⟩ : CallFix p m c cc nL s args gAll own) hM ⟨callB_of n C.2.2.2.2.1 ok.1 rfl rfl rfl (C.2.2.2.2.1 _ ok.2.1.2.2) (C.2.2.2.2.1 _ ok.2.1.1) ok.2.2 hR, C.2.2.2.2.1 _ ok.2.1.2.1⟩ ⟨gP_blind G σ τ _, fun U hU hw => ⟨rfl, gP_of hW C hU hw⟩⟩ rfl hn hsz rfl (lv_room hrm) hdg hf) hW.2.2 (fun _ _ h => h) (fun _ h => h) (fun r0 u t H1 locs1 ht hvm hw hB _ _ hS => ?_)
  obtain ⟨rfl, rfl⟩ := hw
  exact kk H1 locs1 ⟨by rw [← ht]; exact hB.1, hB.2.2.1, hS⟩
theorem g_callsJ {r : Int64} {y : MethodName} {cy : ByteArray} {ny n index fr lo : Nat} {ret : Option FieldType} {As st : List Value} (C : gCx p s m args c G cc nL own) (hW : gW G s σ τ H locs) (ok : gSok own index y cy ny ret n) (hM : gJ l y cy ny ret fr lo G As σ τ r σ' τ') (hR : fr + 1 ≤ R.frames ∧ 8 + (ny + 11) + lo ≤ R.locals) (hf : cells ≤ R.cells ∧ slots ≤ R.slots) (hn : As.length = n) (hsz : ls.size = nL) (hst : st = As.reverse ++ rest) (hrm : (rest.map fun v => v.category).sum ≤ 8) (hdg : decode cc pc = .ok (.invokestatic index, 3))
    (kk : ∀ (H1 : Heap) (locs1 : List Loc), gW G s σ' τ' H1 locs1 → W p l e R s m args below meth c H1 locs1 cells slots Q (F0 m (pc + 3) ls (.long r :: rest))) : W p l e R s m args below meth c H locs cells slots Q (F0 m pc ls st) := by
  subst hst
  refine va_calll (A0 := gA G) (A1 := gA G) (va_runS (As := As) (rest := rest) (⟨C.1, C.2.1, C.2.2.1, C.2.2.2.1, C.2.2.2.2.1⟩ : CallFix p m c cc nL s args gAll own) hM ⟨callB_of n C.2.2.2.2.1 ok.1 rfl rfl rfl (C.2.2.2.2.1 _ ok.2.1.2.2) (C.2.2.2.2.1 _ ok.2.1.1) ok.2.2 hR, C.2.2.2.2.1 _ ok.2.1.2.1⟩ ⟨gP_blind G σ τ _, fun U hU hw => ⟨rfl, gP_of hW C hU hw⟩⟩ rfl hn hsz rfl (lv_room hrm) hdg hf) hW.2.2 (fun _ _ h => h) (fun _ h => h) (fun r0 u t H1 locs1 ht hvm hw hB _ _ hS => ?_)
  obtain ⟨rfl, rfl⟩ := hw
  exact kk H1 locs1 ⟨by rw [← ht]; exact hB.1, hB.2.2.1, hS⟩
theorem g_callsV {y : MethodName} {cy : ByteArray} {ny n index fr lo : Nat} {ret : Option FieldType} {As st : List Value} (C : gCx p s m args c G cc nL own) (hW : gW G s σ τ H locs) (ok : gSok own index y cy ny ret n) (hM : gV l y cy ny ret fr lo G As σ τ σ' τ') (hR : fr + 1 ≤ R.frames ∧ 8 + (ny + 11) + lo ≤ R.locals) (hf : cells ≤ R.cells ∧ slots ≤ R.slots) (hn : As.length = n) (hsz : ls.size = nL) (hst : st = As.reverse ++ rest) (hrm : (rest.map fun v => v.category).sum ≤ 8) (hdg : decode cc pc = .ok (.invokestatic index, 3))
    (kk : ∀ (H1 : Heap) (locs1 : List Loc), gW G s σ' τ' H1 locs1 → W p l e R s m args below meth c H1 locs1 cells slots Q (F0 m (pc + 3) ls (rest))) : W p l e R s m args below meth c H locs cells slots Q (F0 m pc ls st) := by
  subst hst
  refine va_callv (A0 := gA G) (A1 := gA G) (va_runS (As := As) (rest := rest) (⟨C.1, C.2.1, C.2.2.1, C.2.2.2.1, C.2.2.2.2.1⟩ : CallFix p m c cc nL s args gAll own) hM ⟨callB_of n C.2.2.2.2.1 ok.1 rfl rfl rfl (C.2.2.2.2.1 _ ok.2.1.2.2) (C.2.2.2.2.1 _ ok.2.1.1) ok.2.2 hR, C.2.2.2.2.1 _ ok.2.1.2.1⟩ ⟨gP_blind G σ τ _, fun U hU hw => ⟨rfl, gP_of hW C hU hw⟩⟩ rfl hn hsz rfl (lv_room hrm) hdg hf) hW.2.2 (fun _ _ h => h) (fun _ h => h) (fun u t H1 locs1 ht hvm hw hB _ _ hS => ?_)
  obtain rfl := hw
  exact kk H1 locs1 ⟨by rw [← ht]; exact hB.1, hB.2.2.1, hS⟩
theorem g_callnI {r : Int32} {y : MethodName} {cy : ByteArray} {ny n index fr lo : Nat} {ret : Option FieldType} {As st : List Value} {host : String} (hl : va_Nw (.methodLinkNest own index y host) s) (C : gCx p s m args c G cc nL own) (hW : gW G s σ τ H locs) (ok : gNok y cy ny ret n) (hM : gI l y cy ny ret fr lo G As σ τ r σ' τ') (hR : fr + 1 ≤ R.frames ∧ 8 + (ny + 11) + lo ≤ R.locals) (hf : cells ≤ R.cells ∧ slots ≤ R.slots) (hn : As.length = n) (hsz : ls.size = nL) (hst : st = As.reverse ++ rest) (hrm : (rest.map fun v => v.category).sum ≤ 8) (hdg : decode cc pc = .ok (.invokestatic index, 3))
    (kk : ∀ (H1 : Heap) (locs1 : List Loc), gW G s σ' τ' H1 locs1 → W p l e R s m args below meth c H1 locs1 cells slots Q (F0 m (pc + 3) ls (.int r :: rest))) : W p l e R s m args below meth c H locs cells slots Q (F0 m pc ls st) := by
  subst hst
  refine va_calli (A0 := gA G) (A1 := gA G) (va_runSN (As := As) (rest := rest) (⟨C.1, C.2.1, C.2.2.1, C.2.2.2.1, C.2.2.2.2.1⟩ : CallFix p m c cc nL s args gAll own) hM ⟨va_cnB n C.2.2.2.2.1 ok.1 rfl rfl rfl hl (C.2.2.2.2.1 _ ok.2.1.2) ok.2.2 hR, C.2.2.2.2.1 _ ok.2.1.1, trivial⟩ ⟨gP_blind G σ τ _, fun U hU hw => ⟨rfl, gP_of hW C hU hw⟩⟩ rfl hn hsz rfl (lv_room hrm) hdg hf) hW.2.2 (fun _ _ h => h) (fun _ h => h) (fun r0 u t H1 locs1 ht hvm hw hB _ _ hS => ?_)
  obtain ⟨rfl, rfl⟩ := hw
  exact kk H1 locs1 ⟨by rw [← ht]; exact hB.1, hB.2.2.1, hS⟩
theorem g_callnJ {r : Int64} {y : MethodName} {cy : ByteArray} {ny n index fr lo : Nat} {ret : Option FieldType} {As st : List Value} {host : String} (hl : va_Nw (.methodLinkNest own index y host) s) (C : gCx p s m args c G cc nL own) (hW : gW G s σ τ H locs) (ok : gNok y cy ny ret n) (hM : gJ l y cy ny ret fr lo G As σ τ r σ' τ') (hR : fr + 1 ≤ R.frames ∧ 8 + (ny + 11) + lo ≤ R.locals) (hf : cells ≤ R.cells ∧ slots ≤ R.slots) (hn : As.length = n) (hsz : ls.size = nL) (hst : st = As.reverse ++ rest) (hrm : (rest.map fun v => v.category).sum ≤ 8) (hdg : decode cc pc = .ok (.invokestatic index, 3))
    (kk : ∀ (H1 : Heap) (locs1 : List Loc), gW G s σ' τ' H1 locs1 → W p l e R s m args below meth c H1 locs1 cells slots Q (F0 m (pc + 3) ls (.long r :: rest))) : W p l e R s m args below meth c H locs cells slots Q (F0 m pc ls st) := by
  subst hst
  refine va_calll (A0 := gA G) (A1 := gA G) (va_runSN (As := As) (rest := rest) (⟨C.1, C.2.1, C.2.2.1, C.2.2.2.1, C.2.2.2.2.1⟩ : CallFix p m c cc nL s args gAll own) hM ⟨va_cnB n C.2.2.2.2.1 ok.1 rfl rfl rfl hl (C.2.2.2.2.1 _ ok.2.1.2) ok.2.2 hR, C.2.2.2.2.1 _ ok.2.1.1, trivial⟩ ⟨gP_blind G σ τ _, fun U hU hw => ⟨rfl, gP_of hW C hU hw⟩⟩ rfl hn hsz rfl (lv_room hrm) hdg hf) hW.2.2 (fun _ _ h => h) (fun _ h => h) (fun r0 u t H1 locs1 ht hvm hw hB _ _ hS => ?_)
  obtain ⟨rfl, rfl⟩ := hw
  exact kk H1 locs1 ⟨by rw [← ht]; exact hB.1, hB.2.2.1, hS⟩
theorem g_callnV {y : MethodName} {cy : ByteArray} {ny n index fr lo : Nat} {ret : Option FieldType} {As st : List Value} {host : String} (hl : va_Nw (.methodLinkNest own index y host) s) (C : gCx p s m args c G cc nL own) (hW : gW G s σ τ H locs) (ok : gNok y cy ny ret n) (hM : gV l y cy ny ret fr lo G As σ τ σ' τ') (hR : fr + 1 ≤ R.frames ∧ 8 + (ny + 11) + lo ≤ R.locals) (hf : cells ≤ R.cells ∧ slots ≤ R.slots) (hn : As.length = n) (hsz : ls.size = nL) (hst : st = As.reverse ++ rest) (hrm : (rest.map fun v => v.category).sum ≤ 8) (hdg : decode cc pc = .ok (.invokestatic index, 3))
    (kk : ∀ (H1 : Heap) (locs1 : List Loc), gW G s σ' τ' H1 locs1 → W p l e R s m args below meth c H1 locs1 cells slots Q (F0 m (pc + 3) ls (rest))) : W p l e R s m args below meth c H locs cells slots Q (F0 m pc ls st) := by
  subst hst
  refine va_callv (A0 := gA G) (A1 := gA G) (va_runSN (As := As) (rest := rest) (⟨C.1, C.2.1, C.2.2.1, C.2.2.2.1, C.2.2.2.2.1⟩ : CallFix p m c cc nL s args gAll own) hM ⟨va_cnB n C.2.2.2.2.1 ok.1 rfl rfl rfl hl (C.2.2.2.2.1 _ ok.2.1.2) ok.2.2 hR, C.2.2.2.2.1 _ ok.2.1.1, trivial⟩ ⟨gP_blind G σ τ _, fun U hU hw => ⟨rfl, gP_of hW C hU hw⟩⟩ rfl hn hsz rfl (lv_room hrm) hdg hf) hW.2.2 (fun _ _ h => h) (fun _ h => h) (fun u t H1 locs1 ht hvm hw hB _ _ hS => ?_)
  obtain rfl := hw
  exact kk H1 locs1 ⟨by rw [← ht]; exact hB.1, hB.2.2.1, hS⟩
end GROWS
/-- a boolean as the machine has it -/
def bI (b : Bool) : Int32 := if b = true then 1 else 0
theorem bI_t : bI true = 1 := rfl
theorem bI_f : bI false = 0 := rfl
theorem bI_eq0 {b : Bool} : bI b = 0 ↔ b = false := by cases b <;> decide
theorem bI_ne0 {b : Bool} : ¬ bI b = 0 ↔ b = true := by cases b <;> decide
theorem bI_eq1 {b : Bool} : bI b = 1 ↔ b = true := by cases b <;> decide
theorem bI_nar (b : Bool) : narrow .boolean (.int (bI b)) = .int (bI b) := by cases b <;> rfl
theorem bI_vp (b : Bool) : vp_nar .boolean (bI b) = bI b := by cases b <;> rfl
theorem gadd {a b : Int32} {m n : Nat} (ha : a = nI m) (hb : b = nI n) : a + b = nI (m + n) := by rw [ha, hb, nI_add]
theorem gz {b : Int32} {n : Nat} (hb : b = nI n) : 0 + b = nI n := by rw [hb, show (0 : Int32) = nI 0 from rfl, nI_add, Nat.zero_add]
theorem gmul {a b : Int32} {m n : Nat} (ha : a = nI m) (hb : b = nI n) : a * b = nI (m * n) := by rw [ha, hb, pk_mul]
theorem gsub {a b : Int32} {m n : Nat} (ha : a = nI m) (hb : b = nI n) (h : n ≤ m) : a - b = nI (m - n) := by rw [ha, hb, pk_sub h]
theorem bI_inj {a b : Bool} : bI a = bI b ↔ a = b := by cases a <;> cases b <;> decide
