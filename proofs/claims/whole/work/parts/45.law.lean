/-! ===== the law: the skeleton's head, then its cases ===== -/
def R_law : String := "AbsentBellsLaw"
def lw_P (b : Addr) (xs : List Int32) (args : Array Value) (s : State) : Prop := args = #[.ref b] ∧ s.IntsAt b xs ∧ xs.length ≤ 2560 ∧ (Jvm.Cond.and given_1 narrow_1).before args s = true
def lw_Q (_ : Array Value) (s : State) (o : Outcome) (t : State) : Prop := o = .returned (some (.int 1)) ∧ Framed s o t [] 600000 7302250
def lw_Z (below : List Frame) (a : Array Value) (s : State) : State → Prop := fun t => ∃ o, t.status = .running ∧ Ended t below o ∧ lw_Q a s o t
/-- the law's own end, with 1 on the stack, nothing written that was there before, its room as the claim has it -/
theorem lw_ret {p : Program} {l : Launch} {e : Env} {s : State} {m : MethodId} {below : List Frame} {meth : Method} {c : Code} {b : Nat} (hx : p.tables.exec = Jvm.exec) (hb : c.code = code) (hr : meth.sig.returnType = ret) (hlocks : meth.locks = false) {pc : Nat} {H : Heap} {ls : Array Slot} (hdg : decode code pc = .ok (.ireturn, 1)) : W p l e room_1 s m #[Value.ref b] below meth c H [] 600000 7302250 (lw_Z below #[Value.ref b] s) (F0 m pc ls [.int 1]) := by
  intro T hT X
  obtain ⟨fs, hret, hrun, hended, hW, hframe⟩ := X.leave (v := some (.int 1)) (hlocks := hlocks) (fun h => by rw [hr] at h; cases h)
  have hmeth' : T.vm.method? m = some meth := X.method'
  refine ⟨T.setFrames fs, ?_, .returned (some (.int 1)), hrun, hended, rfl, ⟨_, rfl⟩, hW, hframe⟩
  jvm_step X.here [X.here.top, hx, hb, hdg, hmeth', hr, ret, narrow_b1]
  (try refine ⟨rfl, ?_⟩); (try refine ⟨rfl, ?_⟩)
  first | (intro acts; rw [hret _ acts rfl rfl rfl]) | rw [hret _ _ rfl rfl rfl]
  exact Steps.refl _
/-- what holds at the law's entry: the machine, the code, the tables' words (any of lw_tbl by 'hts w (by decide +kernel)'), the script of L ints xs at the cell b, what the Statement gives of the start (any of its parts by flat_of_before) -/
def lw_At (p : Program) (s : State) (m : MethodId) (meth : Method) (c : Code) (b L : Nat) (xs : Nat → Int32) : Prop :=
  p.tables.exec = Jvm.exec ∧ c.code = code ∧ meth.sig.returnType = ret ∧ c.maxLocals = 4 ∧ s.vm.findClass R_law = some m.cls ∧ (∀ w ∈ lw_tbl, w.before #[Value.ref b] s = true) ∧ va_X b L xs s s.heap ∧ b < s.heap.size ∧ meth.locks = false ∧ (Jvm.Cond.and given_1 narrow_1).before #[Value.ref b] s = true
section LAW
variable {p : Program} {l : Launch} {e : Env} {s : State} {m : MethodId} {below : List Frame} {meth : Method} {c : Code} {H : Heap} {locs : List Loc} {Q : State → Prop} {ls : Array Slot} {G : gG} {σ : gSt} {τ : Nat → Int64} {b L i : Nat} {xs : Nat → Int32}
theorem in_L {k : Nat} {x : Int32} (hx : x = nI k) (hk : k < 5) (hi : i + 5 ≤ L) (hL : L ≤ 2560) : vp_in (nI i + x) L := by
  rw [hx, nI_add]; exact vp_in_nI (by omega) (by omega)
set_option maxHeartbeats 4000000 in
set_option maxRecDepth 100000 in
theorem law_type (C : gCx p s m #[Value.ref b] c G cL_law 4 RL) (hX : va_X b L xs s s.heap) (hbl : b < s.heap.size) (hbA : ¬ gA G b) (hW : gW G s σ τ H locs) (hI : gInv σ τ) (hl : lv_has ls 4 [(3, .int (nI i)), (2, .ref (gAd G 96)), (1, .ref (gAd G 0)), (0, .ref b)]) (hi : i + 5 ≤ L) (hL : L ≤ 2560) (kk : ∀ (σ2 : gSt) (τ2 : Nat → Int64) (H2 : Heap) (locs2 : List Loc), gW G s σ2 τ2 H2 locs2 → gInv σ2 τ2 → W p l e room_1 s m #[Value.ref b] below meth c H2 locs2 600000 7302250 Q (F0 m 824 ls [])) : W p l e room_1 s m #[Value.ref b] below meth c H locs 600000 7302250 Q (F0 m 148 ls []) := by
  have hx := C.1
  have hb := C.2.1
  obtain ⟨r, σ1, τ1, σ2, τ2, hk, hm, hI2⟩ := s_type l G hI (xs (nI i + 1).toNatClampNeg)
  refine lv_aload_n hx hb dL_law_148 rfl (lv_at hl 2 rfl) ?_
  refine lv_aload_n hx hb dL_law_149 rfl (lv_at hl 3 rfl) ?_
  refine lv_iload_n hx hb dL_law_150 rfl (lv_at hl 0 rfl) ?_
  refine lv_iconst (v := 1) hx hb dL_law_151 (by decide) ?_
  refine lv_iadd hx hb dL_law_152 ?_
  refine va_sld hx hb hX hbl hbA hW.2.2 (in_L (k := 1) rfl (by decide) hi hL) dL_law_153 ?_
  refine g_callvI (σ' := σ1) (τ' := τ1) (rest := []) (As := [.int (xs (nI i + 1).toNatClampNeg)]) C hW kv_L_13 0 (by decide) (gL_9 rfl) rfl hk ⟨Nat.le_of_ble_eq_true rfl, Nat.le_of_ble_eq_true rfl⟩ ⟨Nat.le_of_ble_eq_true rfl, Nat.le_of_ble_eq_true rfl⟩ rfl hl.1 rfl (Nat.le_of_ble_eq_true rfl) dL_law_154 (fun H locs hW => ?_)
  refine lv_aload_n hx hb dL_law_157 rfl (lv_at hl 1 rfl) ?_
  refine lv_aload_n hx hb dL_law_158 rfl (lv_at hl 3 rfl) ?_
  refine lv_iload_n hx hb dL_law_159 rfl (lv_at hl 0 rfl) ?_
  refine lv_iconst (v := 1) hx hb dL_law_160 (by decide) ?_
  refine lv_iadd hx hb dL_law_161 ?_
  refine va_sld hx hb hX hbl hbA hW.2.2 (in_L (k := 1) rfl (by decide) hi hL) dL_law_162 ?_
  refine g_callvI (σ' := σ2) (τ' := τ2) (rest := [.int r]) (As := [.int (xs (nI i + 1).toNatClampNeg)]) C hW kv_L_17 96 (by decide) (gL_10 rfl) rfl hm ⟨Nat.le_of_ble_eq_true rfl, Nat.le_of_ble_eq_true rfl⟩ ⟨Nat.le_of_ble_eq_true rfl, Nat.le_of_ble_eq_true rfl⟩ rfl hl.1 rfl (Nat.le_of_ble_eq_true rfl) dL_law_163 (fun H locs hW => ?_)
  exact lv_icmp_eq (tgt := 824) hx hb dL_law_166 (by decide) (fun _ => kk _ _ _ _ hW hI2) (fun zz => absurd rfl zz)
set_option maxHeartbeats 4000000 in
set_option maxRecDepth 100000 in
theorem law_clear (C : gCx p s m #[Value.ref b] c G cL_law 4 RL) (hX : va_X b L xs s s.heap) (hbl : b < s.heap.size) (hbA : ¬ gA G b) (hW : gW G s σ τ H locs) (hI : gInv σ τ) (hl : lv_has ls 4 [(3, .int (nI i)), (2, .ref (gAd G 96)), (1, .ref (gAd G 0)), (0, .ref b)]) (hi : i + 5 ≤ L) (hL : L ≤ 2560) (kk : ∀ (σ2 : gSt) (τ2 : Nat → Int64) (H2 : Heap) (locs2 : List Loc), gW G s σ2 τ2 H2 locs2 → gInv σ2 τ2 → W p l e room_1 s m #[Value.ref b] below meth c H2 locs2 600000 7302250 Q (F0 m 824 ls [])) : W p l e room_1 s m #[Value.ref b] below meth c H locs 600000 7302250 Q (F0 m 171 ls []) := by
  have hx := C.1
  have hb := C.2.1
  obtain ⟨r, σ1, τ1, σ2, τ2, hk, hm, hI2⟩ := s_clear l G hI
  refine lv_aload_n hx hb dL_law_171 rfl (lv_at hl 2 rfl) ?_
  refine g_callvI (σ' := σ1) (τ' := τ1) (rest := []) (As := []) C hW kv_L_18 0 (by decide) (gL_9 rfl) rfl hk ⟨Nat.le_of_ble_eq_true rfl, Nat.le_of_ble_eq_true rfl⟩ ⟨Nat.le_of_ble_eq_true rfl, Nat.le_of_ble_eq_true rfl⟩ rfl hl.1 rfl (Nat.le_of_ble_eq_true rfl) dL_law_172 (fun H locs hW => ?_)
  refine lv_aload_n hx hb dL_law_175 rfl (lv_at hl 1 rfl) ?_
  refine g_callvI (σ' := σ2) (τ' := τ2) (rest := [.int r]) (As := []) C hW kv_L_22 96 (by decide) (gL_10 rfl) rfl hm ⟨Nat.le_of_ble_eq_true rfl, Nat.le_of_ble_eq_true rfl⟩ ⟨Nat.le_of_ble_eq_true rfl, Nat.le_of_ble_eq_true rfl⟩ rfl hl.1 rfl (Nat.le_of_ble_eq_true rfl) dL_law_176 (fun H locs hW => ?_)
  exact lv_icmp_eq (tgt := 824) hx hb dL_law_179 (by decide) (fun _ => kk _ _ _ _ hW hI2) (fun zz => absurd rfl zz)
set_option maxHeartbeats 4000000 in
set_option maxRecDepth 100000 in
theorem law_town (C : gCx p s m #[Value.ref b] c G cL_law 4 RL) (hX : va_X b L xs s s.heap) (hbl : b < s.heap.size) (hbA : ¬ gA G b) (hW : gW G s σ τ H locs) (hI : gInv σ τ) (hl : lv_has ls 4 [(3, .int (nI i)), (2, .ref (gAd G 96)), (1, .ref (gAd G 0)), (0, .ref b)]) (hi : i + 5 ≤ L) (hL : L ≤ 2560) (kk : ∀ (σ2 : gSt) (τ2 : Nat → Int64) (H2 : Heap) (locs2 : List Loc), gW G s σ2 τ2 H2 locs2 → gInv σ2 τ2 → W p l e room_1 s m #[Value.ref b] below meth c H2 locs2 600000 7302250 Q (F0 m 824 ls [])) : W p l e room_1 s m #[Value.ref b] below meth c H locs 600000 7302250 Q (F0 m 184 ls []) := by
  have hx := C.1
  have hb := C.2.1
  obtain ⟨r, σ1, τ1, σ2, τ2, hk, hm, hI2⟩ := s_town l G hI
  refine lv_aload_n hx hb dL_law_184 rfl (lv_at hl 2 rfl) ?_
  refine g_callvI (σ' := σ1) (τ' := τ1) (rest := []) (As := []) C hW kv_L_23 0 (by decide) (gL_9 rfl) rfl hk ⟨Nat.le_of_ble_eq_true rfl, Nat.le_of_ble_eq_true rfl⟩ ⟨Nat.le_of_ble_eq_true rfl, Nat.le_of_ble_eq_true rfl⟩ rfl hl.1 rfl (Nat.le_of_ble_eq_true rfl) dL_law_185 (fun H locs hW => ?_)
  refine lv_aload_n hx hb dL_law_188 rfl (lv_at hl 1 rfl) ?_
  refine g_callvI (σ' := σ2) (τ' := τ2) (rest := [.int r]) (As := []) C hW kv_L_26 96 (by decide) (gL_10 rfl) rfl hm ⟨Nat.le_of_ble_eq_true rfl, Nat.le_of_ble_eq_true rfl⟩ ⟨Nat.le_of_ble_eq_true rfl, Nat.le_of_ble_eq_true rfl⟩ rfl hl.1 rfl (Nat.le_of_ble_eq_true rfl) dL_law_189 (fun H locs hW => ?_)
  exact lv_icmp_eq (tgt := 824) hx hb dL_law_192 (by decide) (fun _ => kk _ _ _ _ hW hI2) (fun zz => absurd rfl zz)
set_option maxHeartbeats 4000000 in
set_option maxRecDepth 100000 in
theorem law_person (C : gCx p s m #[Value.ref b] c G cL_law 4 RL) (hX : va_X b L xs s s.heap) (hbl : b < s.heap.size) (hbA : ¬ gA G b) (hW : gW G s σ τ H locs) (hI : gInv σ τ) (hl : lv_has ls 4 [(3, .int (nI i)), (2, .ref (gAd G 96)), (1, .ref (gAd G 0)), (0, .ref b)]) (hi : i + 5 ≤ L) (hL : L ≤ 2560) (kk : ∀ (σ2 : gSt) (τ2 : Nat → Int64) (H2 : Heap) (locs2 : List Loc), gW G s σ2 τ2 H2 locs2 → gInv σ2 τ2 → W p l e room_1 s m #[Value.ref b] below meth c H2 locs2 600000 7302250 Q (F0 m 824 ls [])) : W p l e room_1 s m #[Value.ref b] below meth c H locs 600000 7302250 Q (F0 m 197 ls []) := by
  have hx := C.1
  have hb := C.2.1
  obtain ⟨r, σ1, τ1, σ2, τ2, hk, hm, hI2⟩ := s_person l G hI (xs (nI i + 1).toNatClampNeg) (xs (nI i + 2).toNatClampNeg)
  refine lv_aload_n hx hb dL_law_197 rfl (lv_at hl 2 rfl) ?_
  refine lv_aload_n hx hb dL_law_198 rfl (lv_at hl 3 rfl) ?_
  refine lv_iload_n hx hb dL_law_199 rfl (lv_at hl 0 rfl) ?_
  refine lv_iconst (v := 1) hx hb dL_law_200 (by decide) ?_
  refine lv_iadd hx hb dL_law_201 ?_
  refine va_sld hx hb hX hbl hbA hW.2.2 (in_L (k := 1) rfl (by decide) hi hL) dL_law_202 ?_
  refine lv_aload_n hx hb dL_law_203 rfl (lv_at hl 3 rfl) ?_
  refine lv_iload_n hx hb dL_law_204 rfl (lv_at hl 0 rfl) ?_
  refine lv_iconst (v := 2) hx hb dL_law_205 (by decide) ?_
  refine lv_iadd hx hb dL_law_206 ?_
  refine va_sld hx hb hX hbl hbA hW.2.2 (in_L (k := 2) rfl (by decide) hi hL) dL_law_207 ?_
  refine g_callvI (σ' := σ1) (τ' := τ1) (rest := []) (As := [.int (xs (nI i + 1).toNatClampNeg), .int (xs (nI i + 2).toNatClampNeg)]) C hW kv_L_27 0 (by decide) (gL_9 rfl) rfl hk ⟨Nat.le_of_ble_eq_true rfl, Nat.le_of_ble_eq_true rfl⟩ ⟨Nat.le_of_ble_eq_true rfl, Nat.le_of_ble_eq_true rfl⟩ rfl hl.1 rfl (Nat.le_of_ble_eq_true rfl) dL_law_208 (fun H locs hW => ?_)
  refine lv_aload_n hx hb dL_law_211 rfl (lv_at hl 1 rfl) ?_
  refine lv_aload_n hx hb dL_law_212 rfl (lv_at hl 3 rfl) ?_
  refine lv_iload_n hx hb dL_law_213 rfl (lv_at hl 0 rfl) ?_
  refine lv_iconst (v := 1) hx hb dL_law_214 (by decide) ?_
  refine lv_iadd hx hb dL_law_215 ?_
  refine va_sld hx hb hX hbl hbA hW.2.2 (in_L (k := 1) rfl (by decide) hi hL) dL_law_216 ?_
  refine lv_aload_n hx hb dL_law_217 rfl (lv_at hl 3 rfl) ?_
  refine lv_iload_n hx hb dL_law_218 rfl (lv_at hl 0 rfl) ?_
  refine lv_iconst (v := 2) hx hb dL_law_219 (by decide) ?_
  refine lv_iadd hx hb dL_law_220 ?_
  refine va_sld hx hb hX hbl hbA hW.2.2 (in_L (k := 2) rfl (by decide) hi hL) dL_law_221 ?_
  refine g_callvI (σ' := σ2) (τ' := τ2) (rest := [.int r]) (As := [.int (xs (nI i + 1).toNatClampNeg), .int (xs (nI i + 2).toNatClampNeg)]) C hW kv_L_31 96 (by decide) (gL_10 rfl) rfl hm ⟨Nat.le_of_ble_eq_true rfl, Nat.le_of_ble_eq_true rfl⟩ ⟨Nat.le_of_ble_eq_true rfl, Nat.le_of_ble_eq_true rfl⟩ rfl hl.1 rfl (Nat.le_of_ble_eq_true rfl) dL_law_222 (fun H locs hW => ?_)
  exact lv_icmp_eq (tgt := 824) hx hb dL_law_225 (by decide) (fun _ => kk _ _ _ _ hW hI2) (fun zz => absurd rfl zz)
set_option maxHeartbeats 4000000 in
set_option maxRecDepth 100000 in
theorem law_duty (C : gCx p s m #[Value.ref b] c G cL_law 4 RL) (hX : va_X b L xs s s.heap) (hbl : b < s.heap.size) (hbA : ¬ gA G b) (hW : gW G s σ τ H locs) (hI : gInv σ τ) (hl : lv_has ls 4 [(3, .int (nI i)), (2, .ref (gAd G 96)), (1, .ref (gAd G 0)), (0, .ref b)]) (hi : i + 5 ≤ L) (hL : L ≤ 2560) (kk : ∀ (σ2 : gSt) (τ2 : Nat → Int64) (H2 : Heap) (locs2 : List Loc), gW G s σ2 τ2 H2 locs2 → gInv σ2 τ2 → W p l e room_1 s m #[Value.ref b] below meth c H2 locs2 600000 7302250 Q (F0 m 824 ls [])) : W p l e room_1 s m #[Value.ref b] below meth c H locs 600000 7302250 Q (F0 m 230 ls []) := by
  have hx := C.1
  have hb := C.2.1
  obtain ⟨r, σ1, τ1, σ2, τ2, hk, hm, hI2⟩ := s_duty l G hI (xs (nI i + 1).toNatClampNeg) (xs (nI i + 2).toNatClampNeg)
  refine lv_aload_n hx hb dL_law_230 rfl (lv_at hl 2 rfl) ?_
  refine lv_aload_n hx hb dL_law_231 rfl (lv_at hl 3 rfl) ?_
  refine lv_iload_n hx hb dL_law_232 rfl (lv_at hl 0 rfl) ?_
  refine lv_iconst (v := 1) hx hb dL_law_233 (by decide) ?_
  refine lv_iadd hx hb dL_law_234 ?_
  refine va_sld hx hb hX hbl hbA hW.2.2 (in_L (k := 1) rfl (by decide) hi hL) dL_law_235 ?_
  refine lv_aload_n hx hb dL_law_236 rfl (lv_at hl 3 rfl) ?_
  refine lv_iload_n hx hb dL_law_237 rfl (lv_at hl 0 rfl) ?_
  refine lv_iconst (v := 2) hx hb dL_law_238 (by decide) ?_
  refine lv_iadd hx hb dL_law_239 ?_
  refine va_sld hx hb hX hbl hbA hW.2.2 (in_L (k := 2) rfl (by decide) hi hL) dL_law_240 ?_
  refine g_callvI (σ' := σ1) (τ' := τ1) (rest := []) (As := [.int (xs (nI i + 1).toNatClampNeg), .int (xs (nI i + 2).toNatClampNeg)]) C hW kv_L_32 0 (by decide) (gL_9 rfl) rfl hk ⟨Nat.le_of_ble_eq_true rfl, Nat.le_of_ble_eq_true rfl⟩ ⟨Nat.le_of_ble_eq_true rfl, Nat.le_of_ble_eq_true rfl⟩ rfl hl.1 rfl (Nat.le_of_ble_eq_true rfl) dL_law_241 (fun H locs hW => ?_)
  refine lv_aload_n hx hb dL_law_244 rfl (lv_at hl 1 rfl) ?_
  refine lv_aload_n hx hb dL_law_245 rfl (lv_at hl 3 rfl) ?_
  refine lv_iload_n hx hb dL_law_246 rfl (lv_at hl 0 rfl) ?_
  refine lv_iconst (v := 1) hx hb dL_law_247 (by decide) ?_
  refine lv_iadd hx hb dL_law_248 ?_
  refine va_sld hx hb hX hbl hbA hW.2.2 (in_L (k := 1) rfl (by decide) hi hL) dL_law_249 ?_
  refine lv_aload_n hx hb dL_law_250 rfl (lv_at hl 3 rfl) ?_
  refine lv_iload_n hx hb dL_law_251 rfl (lv_at hl 0 rfl) ?_
  refine lv_iconst (v := 2) hx hb dL_law_252 (by decide) ?_
  refine lv_iadd hx hb dL_law_253 ?_
  refine va_sld hx hb hX hbl hbA hW.2.2 (in_L (k := 2) rfl (by decide) hi hL) dL_law_254 ?_
  refine g_callvI (σ' := σ2) (τ' := τ2) (rest := [.int r]) (As := [.int (xs (nI i + 1).toNatClampNeg), .int (xs (nI i + 2).toNatClampNeg)]) C hW kv_L_35 96 (by decide) (gL_10 rfl) rfl hm ⟨Nat.le_of_ble_eq_true rfl, Nat.le_of_ble_eq_true rfl⟩ ⟨Nat.le_of_ble_eq_true rfl, Nat.le_of_ble_eq_true rfl⟩ rfl hl.1 rfl (Nat.le_of_ble_eq_true rfl) dL_law_255 (fun H locs hW => ?_)
  exact lv_icmp_eq (tgt := 824) hx hb dL_law_258 (by decide) (fun _ => kk _ _ _ _ hW hI2) (fun zz => absurd rfl zz)
set_option maxHeartbeats 4000000 in
set_option maxRecDepth 100000 in
theorem law_now (C : gCx p s m #[Value.ref b] c G cL_law 4 RL) (hX : va_X b L xs s s.heap) (hbl : b < s.heap.size) (hbA : ¬ gA G b) (hW : gW G s σ τ H locs) (hI : gInv σ τ) (hl : lv_has ls 4 [(3, .int (nI i)), (2, .ref (gAd G 96)), (1, .ref (gAd G 0)), (0, .ref b)]) (hi : i + 5 ≤ L) (hL : L ≤ 2560) (kk : ∀ (σ2 : gSt) (τ2 : Nat → Int64) (H2 : Heap) (locs2 : List Loc), gW G s σ2 τ2 H2 locs2 → gInv σ2 τ2 → W p l e room_1 s m #[Value.ref b] below meth c H2 locs2 600000 7302250 Q (F0 m 824 ls [])) : W p l e room_1 s m #[Value.ref b] below meth c H locs 600000 7302250 Q (F0 m 263 ls []) := by
  have hx := C.1
  have hb := C.2.1
  obtain ⟨r, σ1, τ1, σ2, τ2, hk, hm, hI2⟩ := s_now l G hI (xs (nI i + 1).toNatClampNeg)
  refine lv_aload_n hx hb dL_law_263 rfl (lv_at hl 2 rfl) ?_
  refine lv_aload_n hx hb dL_law_264 rfl (lv_at hl 3 rfl) ?_
  refine lv_iload_n hx hb dL_law_265 rfl (lv_at hl 0 rfl) ?_
  refine lv_iconst (v := 1) hx hb dL_law_266 (by decide) ?_
  refine lv_iadd hx hb dL_law_267 ?_
  refine va_sld hx hb hX hbl hbA hW.2.2 (in_L (k := 1) rfl (by decide) hi hL) dL_law_268 ?_
  refine g_callvI (σ' := σ1) (τ' := τ1) (rest := []) (As := [.int (xs (nI i + 1).toNatClampNeg)]) C hW kv_L_36 0 (by decide) (gL_9 rfl) rfl hk ⟨Nat.le_of_ble_eq_true rfl, Nat.le_of_ble_eq_true rfl⟩ ⟨Nat.le_of_ble_eq_true rfl, Nat.le_of_ble_eq_true rfl⟩ rfl hl.1 rfl (Nat.le_of_ble_eq_true rfl) dL_law_269 (fun H locs hW => ?_)
  refine lv_aload_n hx hb dL_law_272 rfl (lv_at hl 1 rfl) ?_
  refine lv_aload_n hx hb dL_law_273 rfl (lv_at hl 3 rfl) ?_
  refine lv_iload_n hx hb dL_law_274 rfl (lv_at hl 0 rfl) ?_
  refine lv_iconst (v := 1) hx hb dL_law_275 (by decide) ?_
  refine lv_iadd hx hb dL_law_276 ?_
  refine va_sld hx hb hX hbl hbA hW.2.2 (in_L (k := 1) rfl (by decide) hi hL) dL_law_277 ?_
  refine g_callvI (σ' := σ2) (τ' := τ2) (rest := [.int r]) (As := [.int (xs (nI i + 1).toNatClampNeg)]) C hW kv_L_39 96 (by decide) (gL_10 rfl) rfl hm ⟨Nat.le_of_ble_eq_true rfl, Nat.le_of_ble_eq_true rfl⟩ ⟨Nat.le_of_ble_eq_true rfl, Nat.le_of_ble_eq_true rfl⟩ rfl hl.1 rfl (Nat.le_of_ble_eq_true rfl) dL_law_278 (fun H locs hW => ?_)
  exact lv_icmp_eq (tgt := 824) hx hb dL_law_281 (by decide) (fun _ => kk _ _ _ _ hW hI2) (fun zz => absurd rfl zz)
set_option maxHeartbeats 4000000 in
set_option maxRecDepth 100000 in
theorem law_goes (C : gCx p s m #[Value.ref b] c G cL_law 4 RL) (hX : va_X b L xs s s.heap) (hbl : b < s.heap.size) (hbA : ¬ gA G b) (hW : gW G s σ τ H locs) (hI : gInv σ τ) (hl : lv_has ls 4 [(3, .int (nI i)), (2, .ref (gAd G 96)), (1, .ref (gAd G 0)), (0, .ref b)]) (hi : i + 5 ≤ L) (hL : L ≤ 2560) (kk : ∀ (σ2 : gSt) (τ2 : Nat → Int64) (H2 : Heap) (locs2 : List Loc), gW G s σ2 τ2 H2 locs2 → gInv σ2 τ2 → W p l e room_1 s m #[Value.ref b] below meth c H2 locs2 600000 7302250 Q (F0 m 824 ls [])) : W p l e room_1 s m #[Value.ref b] below meth c H locs 600000 7302250 Q (F0 m 286 ls []) := by
  have hx := C.1
  have hb := C.2.1
  obtain ⟨r, σ1, τ1, σ2, τ2, hk, hm, hI2⟩ := s_goes l G hI (xs (nI i + 1).toNatClampNeg) (xs (nI i + 2).toNatClampNeg)
  refine lv_aload_n hx hb dL_law_286 rfl (lv_at hl 2 rfl) ?_
  refine lv_aload_n hx hb dL_law_287 rfl (lv_at hl 3 rfl) ?_
  refine lv_iload_n hx hb dL_law_288 rfl (lv_at hl 0 rfl) ?_
  refine lv_iconst (v := 1) hx hb dL_law_289 (by decide) ?_
  refine lv_iadd hx hb dL_law_290 ?_
  refine va_sld hx hb hX hbl hbA hW.2.2 (in_L (k := 1) rfl (by decide) hi hL) dL_law_291 ?_
  refine lv_aload_n hx hb dL_law_292 rfl (lv_at hl 3 rfl) ?_
  refine lv_iload_n hx hb dL_law_293 rfl (lv_at hl 0 rfl) ?_
  refine lv_iconst (v := 2) hx hb dL_law_294 (by decide) ?_
  refine lv_iadd hx hb dL_law_295 ?_
  refine va_sld hx hb hX hbl hbA hW.2.2 (in_L (k := 2) rfl (by decide) hi hL) dL_law_296 ?_
  refine g_callvI (σ' := σ1) (τ' := τ1) (rest := []) (As := [.int (xs (nI i + 1).toNatClampNeg), .int (xs (nI i + 2).toNatClampNeg)]) C hW kv_L_40 0 (by decide) (gL_9 rfl) rfl hk ⟨Nat.le_of_ble_eq_true rfl, Nat.le_of_ble_eq_true rfl⟩ ⟨Nat.le_of_ble_eq_true rfl, Nat.le_of_ble_eq_true rfl⟩ rfl hl.1 rfl (Nat.le_of_ble_eq_true rfl) dL_law_297 (fun H locs hW => ?_)
  refine lv_aload_n hx hb dL_law_300 rfl (lv_at hl 1 rfl) ?_
  refine lv_aload_n hx hb dL_law_301 rfl (lv_at hl 3 rfl) ?_
  refine lv_iload_n hx hb dL_law_302 rfl (lv_at hl 0 rfl) ?_
  refine lv_iconst (v := 1) hx hb dL_law_303 (by decide) ?_
  refine lv_iadd hx hb dL_law_304 ?_
  refine va_sld hx hb hX hbl hbA hW.2.2 (in_L (k := 1) rfl (by decide) hi hL) dL_law_305 ?_
  refine lv_aload_n hx hb dL_law_306 rfl (lv_at hl 3 rfl) ?_
  refine lv_iload_n hx hb dL_law_307 rfl (lv_at hl 0 rfl) ?_
  refine lv_iconst (v := 2) hx hb dL_law_308 (by decide) ?_
  refine lv_iadd hx hb dL_law_309 ?_
  refine va_sld hx hb hX hbl hbA hW.2.2 (in_L (k := 2) rfl (by decide) hi hL) dL_law_310 ?_
  refine g_callvI (σ' := σ2) (τ' := τ2) (rest := [.int r]) (As := [.int (xs (nI i + 1).toNatClampNeg), .int (xs (nI i + 2).toNatClampNeg)]) C hW kv_L_43 96 (by decide) (gL_10 rfl) rfl hm ⟨Nat.le_of_ble_eq_true rfl, Nat.le_of_ble_eq_true rfl⟩ ⟨Nat.le_of_ble_eq_true rfl, Nat.le_of_ble_eq_true rfl⟩ rfl hl.1 rfl (Nat.le_of_ble_eq_true rfl) dL_law_311 (fun H locs hW => ?_)
  exact lv_icmp_eq (tgt := 824) hx hb dL_law_314 (by decide) (fun _ => kk _ _ _ _ hW hI2) (fun zz => absurd rfl zz)
set_option maxHeartbeats 4000000 in
set_option maxRecDepth 100000 in
theorem law_passes (C : gCx p s m #[Value.ref b] c G cL_law 4 RL) (hX : va_X b L xs s s.heap) (hbl : b < s.heap.size) (hbA : ¬ gA G b) (hW : gW G s σ τ H locs) (hI : gInv σ τ) (hl : lv_has ls 4 [(3, .int (nI i)), (2, .ref (gAd G 96)), (1, .ref (gAd G 0)), (0, .ref b)]) (hi : i + 5 ≤ L) (hL : L ≤ 2560) (kk : ∀ (σ2 : gSt) (τ2 : Nat → Int64) (H2 : Heap) (locs2 : List Loc), gW G s σ2 τ2 H2 locs2 → gInv σ2 τ2 → W p l e room_1 s m #[Value.ref b] below meth c H2 locs2 600000 7302250 Q (F0 m 824 ls [])) : W p l e room_1 s m #[Value.ref b] below meth c H locs 600000 7302250 Q (F0 m 319 ls []) := by
  have hx := C.1
  have hb := C.2.1
  obtain ⟨r, σ1, τ1, σ2, τ2, hk, hm, hI2⟩ := s_passes l G hI (xs (nI i + 1).toNatClampNeg)
  refine lv_aload_n hx hb dL_law_319 rfl (lv_at hl 2 rfl) ?_
  refine lv_aload_n hx hb dL_law_320 rfl (lv_at hl 3 rfl) ?_
  refine lv_iload_n hx hb dL_law_321 rfl (lv_at hl 0 rfl) ?_
  refine lv_iconst (v := 1) hx hb dL_law_322 (by decide) ?_
  refine lv_iadd hx hb dL_law_323 ?_
  refine va_sld hx hb hX hbl hbA hW.2.2 (in_L (k := 1) rfl (by decide) hi hL) dL_law_324 ?_
  refine g_callvI (σ' := σ1) (τ' := τ1) (rest := []) (As := [.int (xs (nI i + 1).toNatClampNeg)]) C hW kv_L_44 0 (by decide) (gL_9 rfl) rfl hk ⟨Nat.le_of_ble_eq_true rfl, Nat.le_of_ble_eq_true rfl⟩ ⟨Nat.le_of_ble_eq_true rfl, Nat.le_of_ble_eq_true rfl⟩ rfl hl.1 rfl (Nat.le_of_ble_eq_true rfl) dL_law_325 (fun H locs hW => ?_)
  refine lv_aload_n hx hb dL_law_328 rfl (lv_at hl 1 rfl) ?_
  refine lv_aload_n hx hb dL_law_329 rfl (lv_at hl 3 rfl) ?_
  refine lv_iload_n hx hb dL_law_330 rfl (lv_at hl 0 rfl) ?_
  refine lv_iconst (v := 1) hx hb dL_law_331 (by decide) ?_
  refine lv_iadd hx hb dL_law_332 ?_
  refine va_sld hx hb hX hbl hbA hW.2.2 (in_L (k := 1) rfl (by decide) hi hL) dL_law_333 ?_
  refine g_callvI (σ' := σ2) (τ' := τ2) (rest := [.int r]) (As := [.int (xs (nI i + 1).toNatClampNeg)]) C hW kv_L_47 96 (by decide) (gL_10 rfl) rfl hm ⟨Nat.le_of_ble_eq_true rfl, Nat.le_of_ble_eq_true rfl⟩ ⟨Nat.le_of_ble_eq_true rfl, Nat.le_of_ble_eq_true rfl⟩ rfl hl.1 rfl (Nat.le_of_ble_eq_true rfl) dL_law_334 (fun H locs hW => ?_)
  exact lv_icmp_eq (tgt := 824) hx hb dL_law_337 (by decide) (fun _ => kk _ _ _ _ hW hI2) (fun zz => absurd rfl zz)
set_option maxHeartbeats 4000000 in
set_option maxRecDepth 100000 in
theorem law_excuses (C : gCx p s m #[Value.ref b] c G cL_law 4 RL) (hX : va_X b L xs s s.heap) (hbl : b < s.heap.size) (hbA : ¬ gA G b) (hW : gW G s σ τ H locs) (hI : gInv σ τ) (hl : lv_has ls 4 [(3, .int (nI i)), (2, .ref (gAd G 96)), (1, .ref (gAd G 0)), (0, .ref b)]) (hi : i + 5 ≤ L) (hL : L ≤ 2560) (kk : ∀ (σ2 : gSt) (τ2 : Nat → Int64) (H2 : Heap) (locs2 : List Loc), gW G s σ2 τ2 H2 locs2 → gInv σ2 τ2 → W p l e room_1 s m #[Value.ref b] below meth c H2 locs2 600000 7302250 Q (F0 m 824 ls [])) : W p l e room_1 s m #[Value.ref b] below meth c H locs 600000 7302250 Q (F0 m 342 ls []) := by
  have hx := C.1
  have hb := C.2.1
  obtain ⟨r, σ1, τ1, σ2, τ2, hk, hm, hI2⟩ := s_excuses l G hI (xs (nI i + 1).toNatClampNeg) (xs (nI i + 2).toNatClampNeg)
  refine lv_aload_n hx hb dL_law_342 rfl (lv_at hl 2 rfl) ?_
  refine lv_aload_n hx hb dL_law_343 rfl (lv_at hl 3 rfl) ?_
  refine lv_iload_n hx hb dL_law_344 rfl (lv_at hl 0 rfl) ?_
  refine lv_iconst (v := 1) hx hb dL_law_345 (by decide) ?_
  refine lv_iadd hx hb dL_law_346 ?_
  refine va_sld hx hb hX hbl hbA hW.2.2 (in_L (k := 1) rfl (by decide) hi hL) dL_law_347 ?_
  refine lv_aload_n hx hb dL_law_348 rfl (lv_at hl 3 rfl) ?_
  refine lv_iload_n hx hb dL_law_349 rfl (lv_at hl 0 rfl) ?_
  refine lv_iconst (v := 2) hx hb dL_law_350 (by decide) ?_
  refine lv_iadd hx hb dL_law_351 ?_
  refine va_sld hx hb hX hbl hbA hW.2.2 (in_L (k := 2) rfl (by decide) hi hL) dL_law_352 ?_
  refine g_callvI (σ' := σ1) (τ' := τ1) (rest := []) (As := [.int (xs (nI i + 1).toNatClampNeg), .int (xs (nI i + 2).toNatClampNeg)]) C hW kv_L_48 0 (by decide) (gL_9 rfl) rfl hk ⟨Nat.le_of_ble_eq_true rfl, Nat.le_of_ble_eq_true rfl⟩ ⟨Nat.le_of_ble_eq_true rfl, Nat.le_of_ble_eq_true rfl⟩ rfl hl.1 rfl (Nat.le_of_ble_eq_true rfl) dL_law_353 (fun H locs hW => ?_)
  refine lv_aload_n hx hb dL_law_356 rfl (lv_at hl 1 rfl) ?_
  refine lv_aload_n hx hb dL_law_357 rfl (lv_at hl 3 rfl) ?_
  refine lv_iload_n hx hb dL_law_358 rfl (lv_at hl 0 rfl) ?_
  refine lv_iconst (v := 1) hx hb dL_law_359 (by decide) ?_
  refine lv_iadd hx hb dL_law_360 ?_
  refine va_sld hx hb hX hbl hbA hW.2.2 (in_L (k := 1) rfl (by decide) hi hL) dL_law_361 ?_
  refine lv_aload_n hx hb dL_law_362 rfl (lv_at hl 3 rfl) ?_
  refine lv_iload_n hx hb dL_law_363 rfl (lv_at hl 0 rfl) ?_
  refine lv_iconst (v := 2) hx hb dL_law_364 (by decide) ?_
  refine lv_iadd hx hb dL_law_365 ?_
  refine va_sld hx hb hX hbl hbA hW.2.2 (in_L (k := 2) rfl (by decide) hi hL) dL_law_366 ?_
  refine g_callvI (σ' := σ2) (τ' := τ2) (rest := [.int r]) (As := [.int (xs (nI i + 1).toNatClampNeg), .int (xs (nI i + 2).toNatClampNeg)]) C hW kv_L_51 96 (by decide) (gL_10 rfl) rfl hm ⟨Nat.le_of_ble_eq_true rfl, Nat.le_of_ble_eq_true rfl⟩ ⟨Nat.le_of_ble_eq_true rfl, Nat.le_of_ble_eq_true rfl⟩ rfl hl.1 rfl (Nat.le_of_ble_eq_true rfl) dL_law_367 (fun H locs hW => ?_)
  exact lv_icmp_eq (tgt := 824) hx hb dL_law_370 (by decide) (fun _ => kk _ _ _ _ hW hI2) (fun zz => absurd rfl zz)
set_option maxHeartbeats 4000000 in
set_option maxRecDepth 100000 in
theorem law_swaps (C : gCx p s m #[Value.ref b] c G cL_law 4 RL) (hX : va_X b L xs s s.heap) (hbl : b < s.heap.size) (hbA : ¬ gA G b) (hW : gW G s σ τ H locs) (hI : gInv σ τ) (hl : lv_has ls 4 [(3, .int (nI i)), (2, .ref (gAd G 96)), (1, .ref (gAd G 0)), (0, .ref b)]) (hi : i + 5 ≤ L) (hL : L ≤ 2560) (kk : ∀ (σ2 : gSt) (τ2 : Nat → Int64) (H2 : Heap) (locs2 : List Loc), gW G s σ2 τ2 H2 locs2 → gInv σ2 τ2 → W p l e room_1 s m #[Value.ref b] below meth c H2 locs2 600000 7302250 Q (F0 m 824 ls [])) : W p l e room_1 s m #[Value.ref b] below meth c H locs 600000 7302250 Q (F0 m 375 ls []) := by
  have hx := C.1
  have hb := C.2.1
  obtain ⟨r, σ1, τ1, σ2, τ2, hk, hm, hI2⟩ := s_swaps l G hI (xs (nI i + 1).toNatClampNeg) (xs (nI i + 2).toNatClampNeg)
  refine lv_aload_n hx hb dL_law_375 rfl (lv_at hl 2 rfl) ?_
  refine lv_aload_n hx hb dL_law_376 rfl (lv_at hl 3 rfl) ?_
  refine lv_iload_n hx hb dL_law_377 rfl (lv_at hl 0 rfl) ?_
  refine lv_iconst (v := 1) hx hb dL_law_378 (by decide) ?_
  refine lv_iadd hx hb dL_law_379 ?_
  refine va_sld hx hb hX hbl hbA hW.2.2 (in_L (k := 1) rfl (by decide) hi hL) dL_law_380 ?_
  refine lv_aload_n hx hb dL_law_381 rfl (lv_at hl 3 rfl) ?_
  refine lv_iload_n hx hb dL_law_382 rfl (lv_at hl 0 rfl) ?_
  refine lv_iconst (v := 2) hx hb dL_law_383 (by decide) ?_
  refine lv_iadd hx hb dL_law_384 ?_
  refine va_sld hx hb hX hbl hbA hW.2.2 (in_L (k := 2) rfl (by decide) hi hL) dL_law_385 ?_
  refine g_callvI (σ' := σ1) (τ' := τ1) (rest := []) (As := [.int (xs (nI i + 1).toNatClampNeg), .int (xs (nI i + 2).toNatClampNeg)]) C hW kv_L_52 0 (by decide) (gL_9 rfl) rfl hk ⟨Nat.le_of_ble_eq_true rfl, Nat.le_of_ble_eq_true rfl⟩ ⟨Nat.le_of_ble_eq_true rfl, Nat.le_of_ble_eq_true rfl⟩ rfl hl.1 rfl (Nat.le_of_ble_eq_true rfl) dL_law_386 (fun H locs hW => ?_)
  refine lv_aload_n hx hb dL_law_389 rfl (lv_at hl 1 rfl) ?_
  refine lv_aload_n hx hb dL_law_390 rfl (lv_at hl 3 rfl) ?_
  refine lv_iload_n hx hb dL_law_391 rfl (lv_at hl 0 rfl) ?_
  refine lv_iconst (v := 1) hx hb dL_law_392 (by decide) ?_
  refine lv_iadd hx hb dL_law_393 ?_
  refine va_sld hx hb hX hbl hbA hW.2.2 (in_L (k := 1) rfl (by decide) hi hL) dL_law_394 ?_
  refine lv_aload_n hx hb dL_law_395 rfl (lv_at hl 3 rfl) ?_
  refine lv_iload_n hx hb dL_law_396 rfl (lv_at hl 0 rfl) ?_
  refine lv_iconst (v := 2) hx hb dL_law_397 (by decide) ?_
  refine lv_iadd hx hb dL_law_398 ?_
  refine va_sld hx hb hX hbl hbA hW.2.2 (in_L (k := 2) rfl (by decide) hi hL) dL_law_399 ?_
  refine g_callvI (σ' := σ2) (τ' := τ2) (rest := [.int r]) (As := [.int (xs (nI i + 1).toNatClampNeg), .int (xs (nI i + 2).toNatClampNeg)]) C hW kv_L_55 96 (by decide) (gL_10 rfl) rfl hm ⟨Nat.le_of_ble_eq_true rfl, Nat.le_of_ble_eq_true rfl⟩ ⟨Nat.le_of_ble_eq_true rfl, Nat.le_of_ble_eq_true rfl⟩ rfl hl.1 rfl (Nat.le_of_ble_eq_true rfl) dL_law_400 (fun H locs hW => ?_)
  exact lv_icmp_eq (tgt := 824) hx hb dL_law_403 (by decide) (fun _ => kk _ _ _ _ hW hI2) (fun zz => absurd rfl zz)
set_option maxHeartbeats 4000000 in
set_option maxRecDepth 100000 in
theorem law_undo (C : gCx p s m #[Value.ref b] c G cL_law 4 RL) (hX : va_X b L xs s s.heap) (hbl : b < s.heap.size) (hbA : ¬ gA G b) (hW : gW G s σ τ H locs) (hI : gInv σ τ) (hl : lv_has ls 4 [(3, .int (nI i)), (2, .ref (gAd G 96)), (1, .ref (gAd G 0)), (0, .ref b)]) (hi : i + 5 ≤ L) (hL : L ≤ 2560) (kk : ∀ (σ2 : gSt) (τ2 : Nat → Int64) (H2 : Heap) (locs2 : List Loc), gW G s σ2 τ2 H2 locs2 → gInv σ2 τ2 → W p l e room_1 s m #[Value.ref b] below meth c H2 locs2 600000 7302250 Q (F0 m 824 ls [])) : W p l e room_1 s m #[Value.ref b] below meth c H locs 600000 7302250 Q (F0 m 408 ls []) := by
  have hx := C.1
  have hb := C.2.1
  obtain ⟨r, σ1, τ1, σ2, τ2, hk, hm, hI2⟩ := s_undo l G hI
  refine lv_aload_n hx hb dL_law_408 rfl (lv_at hl 2 rfl) ?_
  refine g_callvI (σ' := σ1) (τ' := τ1) (rest := []) (As := []) C hW kv_L_56 0 (by decide) (gL_9 rfl) rfl hk ⟨Nat.le_of_ble_eq_true rfl, Nat.le_of_ble_eq_true rfl⟩ ⟨Nat.le_of_ble_eq_true rfl, Nat.le_of_ble_eq_true rfl⟩ rfl hl.1 rfl (Nat.le_of_ble_eq_true rfl) dL_law_409 (fun H locs hW => ?_)
  refine lv_aload_n hx hb dL_law_412 rfl (lv_at hl 1 rfl) ?_
  refine g_callvI (σ' := σ2) (τ' := τ2) (rest := [.int r]) (As := []) C hW kv_L_59 96 (by decide) (gL_10 rfl) rfl hm ⟨Nat.le_of_ble_eq_true rfl, Nat.le_of_ble_eq_true rfl⟩ ⟨Nat.le_of_ble_eq_true rfl, Nat.le_of_ble_eq_true rfl⟩ rfl hl.1 rfl (Nat.le_of_ble_eq_true rfl) dL_law_413 (fun H locs hW => ?_)
  exact lv_icmp_eq (tgt := 824) hx hb dL_law_416 (by decide) (fun _ => kk _ _ _ _ hW hI2) (fun zz => absurd rfl zz)
set_option maxHeartbeats 4000000 in
set_option maxRecDepth 100000 in
theorem law_rings (C : gCx p s m #[Value.ref b] c G cL_law 4 RL) (hX : va_X b L xs s s.heap) (hbl : b < s.heap.size) (hbA : ¬ gA G b) (hW : gW G s σ τ H locs) (hI : gInv σ τ) (hl : lv_has ls 4 [(3, .int (nI i)), (2, .ref (gAd G 96)), (1, .ref (gAd G 0)), (0, .ref b)]) (hi : i + 5 ≤ L) (hL : L ≤ 2560) (kk : ∀ (σ2 : gSt) (τ2 : Nat → Int64) (H2 : Heap) (locs2 : List Loc), gW G s σ2 τ2 H2 locs2 → gInv σ2 τ2 → W p l e room_1 s m #[Value.ref b] below meth c H2 locs2 600000 7302250 Q (F0 m 824 ls [])) : W p l e room_1 s m #[Value.ref b] below meth c H locs 600000 7302250 Q (F0 m 421 ls []) := by
  have hx := C.1
  have hb := C.2.1
  obtain ⟨r, σ1, τ1, σ2, τ2, hk, hm, hI2⟩ := s_rings l G hI (xs (nI i + 1).toNatClampNeg)
  refine lv_aload_n hx hb dL_law_421 rfl (lv_at hl 2 rfl) ?_
  refine lv_aload_n hx hb dL_law_422 rfl (lv_at hl 3 rfl) ?_
  refine lv_iload_n hx hb dL_law_423 rfl (lv_at hl 0 rfl) ?_
  refine lv_iconst (v := 1) hx hb dL_law_424 (by decide) ?_
  refine lv_iadd hx hb dL_law_425 ?_
  refine va_sld hx hb hX hbl hbA hW.2.2 (in_L (k := 1) rfl (by decide) hi hL) dL_law_426 ?_
  refine g_callvI (σ' := σ1) (τ' := τ1) (rest := []) (As := [.int (xs (nI i + 1).toNatClampNeg)]) C hW kv_L_60 0 (by decide) (gL_9 rfl) rfl hk ⟨Nat.le_of_ble_eq_true rfl, Nat.le_of_ble_eq_true rfl⟩ ⟨Nat.le_of_ble_eq_true rfl, Nat.le_of_ble_eq_true rfl⟩ rfl hl.1 rfl (Nat.le_of_ble_eq_true rfl) dL_law_427 (fun H locs hW => ?_)
  refine lv_aload_n hx hb dL_law_430 rfl (lv_at hl 1 rfl) ?_
  refine lv_aload_n hx hb dL_law_431 rfl (lv_at hl 3 rfl) ?_
  refine lv_iload_n hx hb dL_law_432 rfl (lv_at hl 0 rfl) ?_
  refine lv_iconst (v := 1) hx hb dL_law_433 (by decide) ?_
  refine lv_iadd hx hb dL_law_434 ?_
  refine va_sld hx hb hX hbl hbA hW.2.2 (in_L (k := 1) rfl (by decide) hi hL) dL_law_435 ?_
  refine g_callvI (σ' := σ2) (τ' := τ2) (rest := [.int r]) (As := [.int (xs (nI i + 1).toNatClampNeg)]) C hW kv_L_63 96 (by decide) (gL_10 rfl) rfl hm ⟨Nat.le_of_ble_eq_true rfl, Nat.le_of_ble_eq_true rfl⟩ ⟨Nat.le_of_ble_eq_true rfl, Nat.le_of_ble_eq_true rfl⟩ rfl hl.1 rfl (Nat.le_of_ble_eq_true rfl) dL_law_436 (fun H locs hW => ?_)
  exact lv_icmp_eq (tgt := 824) hx hb dL_law_439 (by decide) (fun _ => kk _ _ _ _ hW hI2) (fun zz => absurd rfl zz)
set_option maxHeartbeats 4000000 in
set_option maxRecDepth 100000 in
theorem law_chord (C : gCx p s m #[Value.ref b] c G cL_law 4 RL) (hX : va_X b L xs s s.heap) (hbl : b < s.heap.size) (hbA : ¬ gA G b) (hW : gW G s σ τ H locs) (hI : gInv σ τ) (hl : lv_has ls 4 [(3, .int (nI i)), (2, .ref (gAd G 96)), (1, .ref (gAd G 0)), (0, .ref b)]) (hi : i + 5 ≤ L) (hL : L ≤ 2560) (kk : ∀ (σ2 : gSt) (τ2 : Nat → Int64) (H2 : Heap) (locs2 : List Loc), gW G s σ2 τ2 H2 locs2 → gInv σ2 τ2 → W p l e room_1 s m #[Value.ref b] below meth c H2 locs2 600000 7302250 Q (F0 m 824 ls [])) : W p l e room_1 s m #[Value.ref b] below meth c H locs 600000 7302250 Q (F0 m 444 ls []) := by
  have hx := C.1
  have hb := C.2.1
  obtain ⟨r, σ1, τ1, σ2, τ2, hk, hm, hI2⟩ := s_chord l G hI (xs (nI i + 1).toNatClampNeg) (xs (nI i + 2).toNatClampNeg)
  refine lv_aload_n hx hb dL_law_444 rfl (lv_at hl 2 rfl) ?_
  refine lv_aload_n hx hb dL_law_445 rfl (lv_at hl 3 rfl) ?_
  refine lv_iload_n hx hb dL_law_446 rfl (lv_at hl 0 rfl) ?_
  refine lv_iconst (v := 1) hx hb dL_law_447 (by decide) ?_
  refine lv_iadd hx hb dL_law_448 ?_
  refine va_sld hx hb hX hbl hbA hW.2.2 (in_L (k := 1) rfl (by decide) hi hL) dL_law_449 ?_
  refine lv_aload_n hx hb dL_law_450 rfl (lv_at hl 3 rfl) ?_
  refine lv_iload_n hx hb dL_law_451 rfl (lv_at hl 0 rfl) ?_
  refine lv_iconst (v := 2) hx hb dL_law_452 (by decide) ?_
  refine lv_iadd hx hb dL_law_453 ?_
  refine va_sld hx hb hX hbl hbA hW.2.2 (in_L (k := 2) rfl (by decide) hi hL) dL_law_454 ?_
  refine g_callvI (σ' := σ1) (τ' := τ1) (rest := []) (As := [.int (xs (nI i + 1).toNatClampNeg), .int (xs (nI i + 2).toNatClampNeg)]) C hW kv_L_64 0 (by decide) (gL_9 rfl) rfl hk ⟨Nat.le_of_ble_eq_true rfl, Nat.le_of_ble_eq_true rfl⟩ ⟨Nat.le_of_ble_eq_true rfl, Nat.le_of_ble_eq_true rfl⟩ rfl hl.1 rfl (Nat.le_of_ble_eq_true rfl) dL_law_455 (fun H locs hW => ?_)
  refine lv_aload_n hx hb dL_law_458 rfl (lv_at hl 1 rfl) ?_
  refine lv_aload_n hx hb dL_law_459 rfl (lv_at hl 3 rfl) ?_
  refine lv_iload_n hx hb dL_law_460 rfl (lv_at hl 0 rfl) ?_
  refine lv_iconst (v := 1) hx hb dL_law_461 (by decide) ?_
  refine lv_iadd hx hb dL_law_462 ?_
  refine va_sld hx hb hX hbl hbA hW.2.2 (in_L (k := 1) rfl (by decide) hi hL) dL_law_463 ?_
  refine lv_aload_n hx hb dL_law_464 rfl (lv_at hl 3 rfl) ?_
  refine lv_iload_n hx hb dL_law_465 rfl (lv_at hl 0 rfl) ?_
  refine lv_iconst (v := 2) hx hb dL_law_466 (by decide) ?_
  refine lv_iadd hx hb dL_law_467 ?_
  refine va_sld hx hb hX hbl hbA hW.2.2 (in_L (k := 2) rfl (by decide) hi hL) dL_law_468 ?_
  refine g_callvI (σ' := σ2) (τ' := τ2) (rest := [.int r]) (As := [.int (xs (nI i + 1).toNatClampNeg), .int (xs (nI i + 2).toNatClampNeg)]) C hW kv_L_67 96 (by decide) (gL_10 rfl) rfl hm ⟨Nat.le_of_ble_eq_true rfl, Nat.le_of_ble_eq_true rfl⟩ ⟨Nat.le_of_ble_eq_true rfl, Nat.le_of_ble_eq_true rfl⟩ rfl hl.1 rfl (Nat.le_of_ble_eq_true rfl) dL_law_469 (fun H locs hW => ?_)
  exact lv_icmp_eq (tgt := 824) hx hb dL_law_472 (by decide) (fun _ => kk _ _ _ _ hW hI2) (fun zz => absurd rfl zz)
set_option maxHeartbeats 4000000 in
set_option maxRecDepth 100000 in
theorem law_silence (C : gCx p s m #[Value.ref b] c G cL_law 4 RL) (hX : va_X b L xs s s.heap) (hbl : b < s.heap.size) (hbA : ¬ gA G b) (hW : gW G s σ τ H locs) (hI : gInv σ τ) (hl : lv_has ls 4 [(3, .int (nI i)), (2, .ref (gAd G 96)), (1, .ref (gAd G 0)), (0, .ref b)]) (hi : i + 5 ≤ L) (hL : L ≤ 2560) (kk : ∀ (σ2 : gSt) (τ2 : Nat → Int64) (H2 : Heap) (locs2 : List Loc), gW G s σ2 τ2 H2 locs2 → gInv σ2 τ2 → W p l e room_1 s m #[Value.ref b] below meth c H2 locs2 600000 7302250 Q (F0 m 824 ls [])) : W p l e room_1 s m #[Value.ref b] below meth c H locs 600000 7302250 Q (F0 m 477 ls []) := by
  have hx := C.1
  have hb := C.2.1
  obtain ⟨r, σ1, τ1, σ2, τ2, hk, hm, hI2⟩ := s_silence l G hI (xs (nI i + 1).toNatClampNeg)
  refine lv_aload_n hx hb dL_law_477 rfl (lv_at hl 2 rfl) ?_
  refine lv_aload_n hx hb dL_law_478 rfl (lv_at hl 3 rfl) ?_
  refine lv_iload_n hx hb dL_law_479 rfl (lv_at hl 0 rfl) ?_
  refine lv_iconst (v := 1) hx hb dL_law_480 (by decide) ?_
  refine lv_iadd hx hb dL_law_481 ?_
  refine va_sld hx hb hX hbl hbA hW.2.2 (in_L (k := 1) rfl (by decide) hi hL) dL_law_482 ?_
  refine g_callvI (σ' := σ1) (τ' := τ1) (rest := []) (As := [.int (xs (nI i + 1).toNatClampNeg)]) C hW kv_L_68 0 (by decide) (gL_9 rfl) rfl hk ⟨Nat.le_of_ble_eq_true rfl, Nat.le_of_ble_eq_true rfl⟩ ⟨Nat.le_of_ble_eq_true rfl, Nat.le_of_ble_eq_true rfl⟩ rfl hl.1 rfl (Nat.le_of_ble_eq_true rfl) dL_law_483 (fun H locs hW => ?_)
  refine lv_aload_n hx hb dL_law_486 rfl (lv_at hl 1 rfl) ?_
  refine lv_aload_n hx hb dL_law_487 rfl (lv_at hl 3 rfl) ?_
  refine lv_iload_n hx hb dL_law_488 rfl (lv_at hl 0 rfl) ?_
  refine lv_iconst (v := 1) hx hb dL_law_489 (by decide) ?_
  refine lv_iadd hx hb dL_law_490 ?_
  refine va_sld hx hb hX hbl hbA hW.2.2 (in_L (k := 1) rfl (by decide) hi hL) dL_law_491 ?_
  refine g_callvI (σ' := σ2) (τ' := τ2) (rest := [.int r]) (As := [.int (xs (nI i + 1).toNatClampNeg)]) C hW kv_L_71 96 (by decide) (gL_10 rfl) rfl hm ⟨Nat.le_of_ble_eq_true rfl, Nat.le_of_ble_eq_true rfl⟩ ⟨Nat.le_of_ble_eq_true rfl, Nat.le_of_ble_eq_true rfl⟩ rfl hl.1 rfl (Nat.le_of_ble_eq_true rfl) dL_law_492 (fun H locs hW => ?_)
  exact lv_icmp_eq (tgt := 824) hx hb dL_law_495 (by decide) (fun _ => kk _ _ _ _ hW hI2) (fun zz => absurd rfl zz)
set_option maxHeartbeats 4000000 in
set_option maxRecDepth 100000 in
theorem law_least (C : gCx p s m #[Value.ref b] c G cL_law 4 RL) (hX : va_X b L xs s s.heap) (hbl : b < s.heap.size) (hbA : ¬ gA G b) (hW : gW G s σ τ H locs) (hI : gInv σ τ) (hl : lv_has ls 4 [(3, .int (nI i)), (2, .ref (gAd G 96)), (1, .ref (gAd G 0)), (0, .ref b)]) (hi : i + 5 ≤ L) (hL : L ≤ 2560) (kk : ∀ (σ2 : gSt) (τ2 : Nat → Int64) (H2 : Heap) (locs2 : List Loc), gW G s σ2 τ2 H2 locs2 → gInv σ2 τ2 → W p l e room_1 s m #[Value.ref b] below meth c H2 locs2 600000 7302250 Q (F0 m 824 ls [])) : W p l e room_1 s m #[Value.ref b] below meth c H locs 600000 7302250 Q (F0 m 500 ls []) := by
  have hx := C.1
  have hb := C.2.1
  obtain ⟨r, σ1, τ1, σ2, τ2, hk, hm, hI2⟩ := s_least l G hI (xs (nI i + 1).toNatClampNeg) (xs (nI i + 2).toNatClampNeg)
  refine lv_aload_n hx hb dL_law_500 rfl (lv_at hl 2 rfl) ?_
  refine lv_aload_n hx hb dL_law_501 rfl (lv_at hl 3 rfl) ?_
  refine lv_iload_n hx hb dL_law_502 rfl (lv_at hl 0 rfl) ?_
  refine lv_iconst (v := 1) hx hb dL_law_503 (by decide) ?_
  refine lv_iadd hx hb dL_law_504 ?_
  refine va_sld hx hb hX hbl hbA hW.2.2 (in_L (k := 1) rfl (by decide) hi hL) dL_law_505 ?_
  refine lv_aload_n hx hb dL_law_506 rfl (lv_at hl 3 rfl) ?_
  refine lv_iload_n hx hb dL_law_507 rfl (lv_at hl 0 rfl) ?_
  refine lv_iconst (v := 2) hx hb dL_law_508 (by decide) ?_
  refine lv_iadd hx hb dL_law_509 ?_
  refine va_sld hx hb hX hbl hbA hW.2.2 (in_L (k := 2) rfl (by decide) hi hL) dL_law_510 ?_
  refine g_callvI (σ' := σ1) (τ' := τ1) (rest := []) (As := [.int (xs (nI i + 1).toNatClampNeg), .int (xs (nI i + 2).toNatClampNeg)]) C hW kv_L_72 0 (by decide) (gL_9 rfl) rfl hk ⟨Nat.le_of_ble_eq_true rfl, Nat.le_of_ble_eq_true rfl⟩ ⟨Nat.le_of_ble_eq_true rfl, Nat.le_of_ble_eq_true rfl⟩ rfl hl.1 rfl (Nat.le_of_ble_eq_true rfl) dL_law_511 (fun H locs hW => ?_)
  refine lv_aload_n hx hb dL_law_514 rfl (lv_at hl 1 rfl) ?_
  refine lv_aload_n hx hb dL_law_515 rfl (lv_at hl 3 rfl) ?_
  refine lv_iload_n hx hb dL_law_516 rfl (lv_at hl 0 rfl) ?_
  refine lv_iconst (v := 1) hx hb dL_law_517 (by decide) ?_
  refine lv_iadd hx hb dL_law_518 ?_
  refine va_sld hx hb hX hbl hbA hW.2.2 (in_L (k := 1) rfl (by decide) hi hL) dL_law_519 ?_
  refine lv_aload_n hx hb dL_law_520 rfl (lv_at hl 3 rfl) ?_
  refine lv_iload_n hx hb dL_law_521 rfl (lv_at hl 0 rfl) ?_
  refine lv_iconst (v := 2) hx hb dL_law_522 (by decide) ?_
  refine lv_iadd hx hb dL_law_523 ?_
  refine va_sld hx hb hX hbl hbA hW.2.2 (in_L (k := 2) rfl (by decide) hi hL) dL_law_524 ?_
  refine g_callvI (σ' := σ2) (τ' := τ2) (rest := [.int r]) (As := [.int (xs (nI i + 1).toNatClampNeg), .int (xs (nI i + 2).toNatClampNeg)]) C hW kv_L_75 96 (by decide) (gL_10 rfl) rfl hm ⟨Nat.le_of_ble_eq_true rfl, Nat.le_of_ble_eq_true rfl⟩ ⟨Nat.le_of_ble_eq_true rfl, Nat.le_of_ble_eq_true rfl⟩ rfl hl.1 rfl (Nat.le_of_ble_eq_true rfl) dL_law_525 (fun H locs hW => ?_)
  exact lv_icmp_eq (tgt := 824) hx hb dL_law_528 (by decide) (fun _ => kk _ _ _ _ hW hI2) (fun zz => absurd rfl zz)
set_option maxHeartbeats 4000000 in
set_option maxRecDepth 100000 in
theorem law_hears (C : gCx p s m #[Value.ref b] c G cL_law 4 RL) (hX : va_X b L xs s s.heap) (hbl : b < s.heap.size) (hbA : ¬ gA G b) (hW : gW G s σ τ H locs) (hI : gInv σ τ) (hl : lv_has ls 4 [(3, .int (nI i)), (2, .ref (gAd G 96)), (1, .ref (gAd G 0)), (0, .ref b)]) (hi : i + 5 ≤ L) (hL : L ≤ 2560) (kk : ∀ (σ2 : gSt) (τ2 : Nat → Int64) (H2 : Heap) (locs2 : List Loc), gW G s σ2 τ2 H2 locs2 → gInv σ2 τ2 → W p l e room_1 s m #[Value.ref b] below meth c H2 locs2 600000 7302250 Q (F0 m 824 ls [])) : W p l e room_1 s m #[Value.ref b] below meth c H locs 600000 7302250 Q (F0 m 533 ls []) := by
  have hx := C.1
  have hb := C.2.1
  obtain ⟨r, σ1, τ1, σ2, τ2, hk, hm, hI2⟩ := s_hears l G hI (xs (nI i + 1).toNatClampNeg) (xs (nI i + 2).toNatClampNeg) (xs (nI i + 3).toNatClampNeg)
  refine lv_aload_n hx hb dL_law_533 rfl (lv_at hl 2 rfl) ?_
  refine lv_aload_n hx hb dL_law_534 rfl (lv_at hl 3 rfl) ?_
  refine lv_iload_n hx hb dL_law_535 rfl (lv_at hl 0 rfl) ?_
  refine lv_iconst (v := 1) hx hb dL_law_536 (by decide) ?_
  refine lv_iadd hx hb dL_law_537 ?_
  refine va_sld hx hb hX hbl hbA hW.2.2 (in_L (k := 1) rfl (by decide) hi hL) dL_law_538 ?_
  refine lv_aload_n hx hb dL_law_539 rfl (lv_at hl 3 rfl) ?_
  refine lv_iload_n hx hb dL_law_540 rfl (lv_at hl 0 rfl) ?_
  refine lv_iconst (v := 2) hx hb dL_law_541 (by decide) ?_
  refine lv_iadd hx hb dL_law_542 ?_
  refine va_sld hx hb hX hbl hbA hW.2.2 (in_L (k := 2) rfl (by decide) hi hL) dL_law_543 ?_
  refine lv_aload_n hx hb dL_law_544 rfl (lv_at hl 3 rfl) ?_
  refine lv_iload_n hx hb dL_law_545 rfl (lv_at hl 0 rfl) ?_
  refine lv_iconst (v := 3) hx hb dL_law_546 (by decide) ?_
  refine lv_iadd hx hb dL_law_547 ?_
  refine va_sld hx hb hX hbl hbA hW.2.2 (in_L (k := 3) rfl (by decide) hi hL) dL_law_548 ?_
  refine g_callvI (σ' := σ1) (τ' := τ1) (rest := []) (As := [.int (xs (nI i + 1).toNatClampNeg), .int (xs (nI i + 2).toNatClampNeg), .int (xs (nI i + 3).toNatClampNeg)]) C hW kv_L_76 0 (by decide) (gL_9 rfl) rfl hk ⟨Nat.le_of_ble_eq_true rfl, Nat.le_of_ble_eq_true rfl⟩ ⟨Nat.le_of_ble_eq_true rfl, Nat.le_of_ble_eq_true rfl⟩ rfl hl.1 rfl (Nat.le_of_ble_eq_true rfl) dL_law_549 (fun H locs hW => ?_)
  refine lv_aload_n hx hb dL_law_552 rfl (lv_at hl 1 rfl) ?_
  refine lv_aload_n hx hb dL_law_553 rfl (lv_at hl 3 rfl) ?_
  refine lv_iload_n hx hb dL_law_554 rfl (lv_at hl 0 rfl) ?_
  refine lv_iconst (v := 1) hx hb dL_law_555 (by decide) ?_
  refine lv_iadd hx hb dL_law_556 ?_
  refine va_sld hx hb hX hbl hbA hW.2.2 (in_L (k := 1) rfl (by decide) hi hL) dL_law_557 ?_
  refine lv_aload_n hx hb dL_law_558 rfl (lv_at hl 3 rfl) ?_
  refine lv_iload_n hx hb dL_law_559 rfl (lv_at hl 0 rfl) ?_
  refine lv_iconst (v := 2) hx hb dL_law_560 (by decide) ?_
  refine lv_iadd hx hb dL_law_561 ?_
  refine va_sld hx hb hX hbl hbA hW.2.2 (in_L (k := 2) rfl (by decide) hi hL) dL_law_562 ?_
  refine lv_aload_n hx hb dL_law_563 rfl (lv_at hl 3 rfl) ?_
  refine lv_iload_n hx hb dL_law_564 rfl (lv_at hl 0 rfl) ?_
  refine lv_iconst (v := 3) hx hb dL_law_565 (by decide) ?_
  refine lv_iadd hx hb dL_law_566 ?_
  refine va_sld hx hb hX hbl hbA hW.2.2 (in_L (k := 3) rfl (by decide) hi hL) dL_law_567 ?_
  refine g_callvI (σ' := σ2) (τ' := τ2) (rest := [.int r]) (As := [.int (xs (nI i + 1).toNatClampNeg), .int (xs (nI i + 2).toNatClampNeg), .int (xs (nI i + 3).toNatClampNeg)]) C hW kv_L_80 96 (by decide) (gL_10 rfl) rfl hm ⟨Nat.le_of_ble_eq_true rfl, Nat.le_of_ble_eq_true rfl⟩ ⟨Nat.le_of_ble_eq_true rfl, Nat.le_of_ble_eq_true rfl⟩ rfl hl.1 rfl (Nat.le_of_ble_eq_true rfl) dL_law_568 (fun H locs hW => ?_)
  exact lv_icmp_eq (tgt := 824) hx hb dL_law_571 (by decide) (fun _ => kk _ _ _ _ hW hI2) (fun zz => absurd rfl zz)
set_option maxHeartbeats 4000000 in
set_option maxRecDepth 100000 in
theorem law_forget (C : gCx p s m #[Value.ref b] c G cL_law 4 RL) (hX : va_X b L xs s s.heap) (hbl : b < s.heap.size) (hbA : ¬ gA G b) (hW : gW G s σ τ H locs) (hI : gInv σ τ) (hl : lv_has ls 4 [(3, .int (nI i)), (2, .ref (gAd G 96)), (1, .ref (gAd G 0)), (0, .ref b)]) (hi : i + 5 ≤ L) (hL : L ≤ 2560) (kk : ∀ (σ2 : gSt) (τ2 : Nat → Int64) (H2 : Heap) (locs2 : List Loc), gW G s σ2 τ2 H2 locs2 → gInv σ2 τ2 → W p l e room_1 s m #[Value.ref b] below meth c H2 locs2 600000 7302250 Q (F0 m 824 ls [])) : W p l e room_1 s m #[Value.ref b] below meth c H locs 600000 7302250 Q (F0 m 576 ls []) := by
  have hx := C.1
  have hb := C.2.1
  obtain ⟨r, σ1, τ1, σ2, τ2, hk, hm, hI2⟩ := s_forget l G hI
  refine lv_aload_n hx hb dL_law_576 rfl (lv_at hl 2 rfl) ?_
  refine g_callvI (σ' := σ1) (τ' := τ1) (rest := []) (As := []) C hW kv_L_81 0 (by decide) (gL_9 rfl) rfl hk ⟨Nat.le_of_ble_eq_true rfl, Nat.le_of_ble_eq_true rfl⟩ ⟨Nat.le_of_ble_eq_true rfl, Nat.le_of_ble_eq_true rfl⟩ rfl hl.1 rfl (Nat.le_of_ble_eq_true rfl) dL_law_577 (fun H locs hW => ?_)
  refine lv_aload_n hx hb dL_law_580 rfl (lv_at hl 1 rfl) ?_
  refine g_callvI (σ' := σ2) (τ' := τ2) (rest := [.int r]) (As := []) C hW kv_L_84 96 (by decide) (gL_10 rfl) rfl hm ⟨Nat.le_of_ble_eq_true rfl, Nat.le_of_ble_eq_true rfl⟩ ⟨Nat.le_of_ble_eq_true rfl, Nat.le_of_ble_eq_true rfl⟩ rfl hl.1 rfl (Nat.le_of_ble_eq_true rfl) dL_law_581 (fun H locs hW => ?_)
  exact lv_icmp_eq (tgt := 824) hx hb dL_law_584 (by decide) (fun _ => kk _ _ _ _ hW hI2) (fun zz => absurd rfl zz)
set_option maxHeartbeats 4000000 in
set_option maxRecDepth 100000 in
theorem law_can (C : gCx p s m #[Value.ref b] c G cL_law 4 RL) (hX : va_X b L xs s s.heap) (hbl : b < s.heap.size) (hbA : ¬ gA G b) (hW : gW G s σ τ H locs) (hI : gInv σ τ) (hl : lv_has ls 4 [(3, .int (nI i)), (2, .ref (gAd G 96)), (1, .ref (gAd G 0)), (0, .ref b)]) (hi : i + 5 ≤ L) (hL : L ≤ 2560) (kk : ∀ (σ2 : gSt) (τ2 : Nat → Int64) (H2 : Heap) (locs2 : List Loc), gW G s σ2 τ2 H2 locs2 → gInv σ2 τ2 → W p l e room_1 s m #[Value.ref b] below meth c H2 locs2 600000 7302250 Q (F0 m 824 ls [])) : W p l e room_1 s m #[Value.ref b] below meth c H locs 600000 7302250 Q (F0 m 589 ls []) := by
  have hx := C.1
  have hb := C.2.1
  obtain ⟨r, σ1, τ1, σ2, τ2, hk, hm, hI2⟩ := s_can l G hI (xs (nI i + 1).toNatClampNeg)
  refine lv_aload_n hx hb dL_law_589 rfl (lv_at hl 2 rfl) ?_
  refine lv_aload_n hx hb dL_law_590 rfl (lv_at hl 3 rfl) ?_
  refine lv_iload_n hx hb dL_law_591 rfl (lv_at hl 0 rfl) ?_
  refine lv_iconst (v := 1) hx hb dL_law_592 (by decide) ?_
  refine lv_iadd hx hb dL_law_593 ?_
  refine va_sld hx hb hX hbl hbA hW.2.2 (in_L (k := 1) rfl (by decide) hi hL) dL_law_594 ?_
  refine g_callvI (σ' := σ1) (τ' := τ1) (rest := []) (As := [.int (xs (nI i + 1).toNatClampNeg)]) C hW kv_L_85 0 (by decide) (gL_9 rfl) rfl hk ⟨Nat.le_of_ble_eq_true rfl, Nat.le_of_ble_eq_true rfl⟩ ⟨Nat.le_of_ble_eq_true rfl, Nat.le_of_ble_eq_true rfl⟩ rfl hl.1 rfl (Nat.le_of_ble_eq_true rfl) dL_law_595 (fun H locs hW => ?_)
  refine lv_aload_n hx hb dL_law_598 rfl (lv_at hl 1 rfl) ?_
  refine lv_aload_n hx hb dL_law_599 rfl (lv_at hl 3 rfl) ?_
  refine lv_iload_n hx hb dL_law_600 rfl (lv_at hl 0 rfl) ?_
  refine lv_iconst (v := 1) hx hb dL_law_601 (by decide) ?_
  refine lv_iadd hx hb dL_law_602 ?_
  refine va_sld hx hb hX hbl hbA hW.2.2 (in_L (k := 1) rfl (by decide) hi hL) dL_law_603 ?_
  refine g_callvI (σ' := σ2) (τ' := τ2) (rest := [.int r]) (As := [.int (xs (nI i + 1).toNatClampNeg)]) C hW kv_L_88 96 (by decide) (gL_10 rfl) rfl hm ⟨Nat.le_of_ble_eq_true rfl, Nat.le_of_ble_eq_true rfl⟩ ⟨Nat.le_of_ble_eq_true rfl, Nat.le_of_ble_eq_true rfl⟩ rfl hl.1 rfl (Nat.le_of_ble_eq_true rfl) dL_law_604 (fun H locs hW => ?_)
  exact lv_icmp_eq (tgt := 824) hx hb dL_law_607 (by decide) (fun _ => kk _ _ _ _ hW hI2) (fun zz => absurd rfl zz)
set_option maxHeartbeats 4000000 in
set_option maxRecDepth 100000 in
theorem law_tells (C : gCx p s m #[Value.ref b] c G cL_law 4 RL) (hX : va_X b L xs s s.heap) (hbl : b < s.heap.size) (hbA : ¬ gA G b) (hW : gW G s σ τ H locs) (hI : gInv σ τ) (hl : lv_has ls 4 [(3, .int (nI i)), (2, .ref (gAd G 96)), (1, .ref (gAd G 0)), (0, .ref b)]) (hi : i + 5 ≤ L) (hL : L ≤ 2560) (kk : ∀ (σ2 : gSt) (τ2 : Nat → Int64) (H2 : Heap) (locs2 : List Loc), gW G s σ2 τ2 H2 locs2 → gInv σ2 τ2 → W p l e room_1 s m #[Value.ref b] below meth c H2 locs2 600000 7302250 Q (F0 m 824 ls [])) : W p l e room_1 s m #[Value.ref b] below meth c H locs 600000 7302250 Q (F0 m 612 ls []) := by
  have hx := C.1
  have hb := C.2.1
  obtain ⟨r, σ1, τ1, σ2, τ2, hk, hm, hI2⟩ := s_tells l G hI (xs (nI i + 1).toNatClampNeg) (xs (nI i + 2).toNatClampNeg) (xs (nI i + 3).toNatClampNeg)
  refine lv_aload_n hx hb dL_law_612 rfl (lv_at hl 2 rfl) ?_
  refine lv_aload_n hx hb dL_law_613 rfl (lv_at hl 3 rfl) ?_
  refine lv_iload_n hx hb dL_law_614 rfl (lv_at hl 0 rfl) ?_
  refine lv_iconst (v := 1) hx hb dL_law_615 (by decide) ?_
  refine lv_iadd hx hb dL_law_616 ?_
  refine va_sld hx hb hX hbl hbA hW.2.2 (in_L (k := 1) rfl (by decide) hi hL) dL_law_617 ?_
  refine lv_aload_n hx hb dL_law_618 rfl (lv_at hl 3 rfl) ?_
  refine lv_iload_n hx hb dL_law_619 rfl (lv_at hl 0 rfl) ?_
  refine lv_iconst (v := 2) hx hb dL_law_620 (by decide) ?_
  refine lv_iadd hx hb dL_law_621 ?_
  refine va_sld hx hb hX hbl hbA hW.2.2 (in_L (k := 2) rfl (by decide) hi hL) dL_law_622 ?_
  refine lv_aload_n hx hb dL_law_623 rfl (lv_at hl 3 rfl) ?_
  refine lv_iload_n hx hb dL_law_624 rfl (lv_at hl 0 rfl) ?_
  refine lv_iconst (v := 3) hx hb dL_law_625 (by decide) ?_
  refine lv_iadd hx hb dL_law_626 ?_
  refine va_sld hx hb hX hbl hbA hW.2.2 (in_L (k := 3) rfl (by decide) hi hL) dL_law_627 ?_
  refine g_callvI (σ' := σ1) (τ' := τ1) (rest := []) (As := [.int (xs (nI i + 1).toNatClampNeg), .int (xs (nI i + 2).toNatClampNeg), .int (xs (nI i + 3).toNatClampNeg)]) C hW kv_L_89 0 (by decide) (gL_9 rfl) rfl hk ⟨Nat.le_of_ble_eq_true rfl, Nat.le_of_ble_eq_true rfl⟩ ⟨Nat.le_of_ble_eq_true rfl, Nat.le_of_ble_eq_true rfl⟩ rfl hl.1 rfl (Nat.le_of_ble_eq_true rfl) dL_law_628 (fun H locs hW => ?_)
  refine lv_aload_n hx hb dL_law_631 rfl (lv_at hl 1 rfl) ?_
  refine lv_aload_n hx hb dL_law_632 rfl (lv_at hl 3 rfl) ?_
  refine lv_iload_n hx hb dL_law_633 rfl (lv_at hl 0 rfl) ?_
  refine lv_iconst (v := 1) hx hb dL_law_634 (by decide) ?_
  refine lv_iadd hx hb dL_law_635 ?_
  refine va_sld hx hb hX hbl hbA hW.2.2 (in_L (k := 1) rfl (by decide) hi hL) dL_law_636 ?_
  refine lv_aload_n hx hb dL_law_637 rfl (lv_at hl 3 rfl) ?_
  refine lv_iload_n hx hb dL_law_638 rfl (lv_at hl 0 rfl) ?_
  refine lv_iconst (v := 2) hx hb dL_law_639 (by decide) ?_
  refine lv_iadd hx hb dL_law_640 ?_
  refine va_sld hx hb hX hbl hbA hW.2.2 (in_L (k := 2) rfl (by decide) hi hL) dL_law_641 ?_
  refine lv_aload_n hx hb dL_law_642 rfl (lv_at hl 3 rfl) ?_
  refine lv_iload_n hx hb dL_law_643 rfl (lv_at hl 0 rfl) ?_
  refine lv_iconst (v := 3) hx hb dL_law_644 (by decide) ?_
  refine lv_iadd hx hb dL_law_645 ?_
  refine va_sld hx hb hX hbl hbA hW.2.2 (in_L (k := 3) rfl (by decide) hi hL) dL_law_646 ?_
  refine g_callvI (σ' := σ2) (τ' := τ2) (rest := [.int r]) (As := [.int (xs (nI i + 1).toNatClampNeg), .int (xs (nI i + 2).toNatClampNeg), .int (xs (nI i + 3).toNatClampNeg)]) C hW kv_L_92 96 (by decide) (gL_10 rfl) rfl hm ⟨Nat.le_of_ble_eq_true rfl, Nat.le_of_ble_eq_true rfl⟩ ⟨Nat.le_of_ble_eq_true rfl, Nat.le_of_ble_eq_true rfl⟩ rfl hl.1 rfl (Nat.le_of_ble_eq_true rfl) dL_law_647 (fun H locs hW => ?_)
  exact lv_icmp_eq (tgt := 824) hx hb dL_law_650 (by decide) (fun _ => kk _ _ _ _ hW hI2) (fun zz => absurd rfl zz)
set_option maxHeartbeats 4000000 in
set_option maxRecDepth 100000 in
theorem law_odds (C : gCx p s m #[Value.ref b] c G cL_law 4 RL) (hX : va_X b L xs s s.heap) (hbl : b < s.heap.size) (hbA : ¬ gA G b) (hW : gW G s σ τ H locs) (hI : gInv σ τ) (hl : lv_has ls 4 [(3, .int (nI i)), (2, .ref (gAd G 96)), (1, .ref (gAd G 0)), (0, .ref b)]) (hi : i + 5 ≤ L) (hL : L ≤ 2560) (kk : ∀ (σ2 : gSt) (τ2 : Nat → Int64) (H2 : Heap) (locs2 : List Loc), gW G s σ2 τ2 H2 locs2 → gInv σ2 τ2 → W p l e room_1 s m #[Value.ref b] below meth c H2 locs2 600000 7302250 Q (F0 m 824 ls [])) : W p l e room_1 s m #[Value.ref b] below meth c H locs 600000 7302250 Q (F0 m 655 ls []) := by
  have hx := C.1
  have hb := C.2.1
  obtain ⟨r, σ1, τ1, σ2, τ2, hk, hm, hI2⟩ := s_odds l G hI (xs (nI i + 1).toNatClampNeg) (xs (nI i + 2).toNatClampNeg) (xs (nI i + 3).toNatClampNeg) (xs (nI i + 4).toNatClampNeg)
  refine lv_aload_n hx hb dL_law_655 rfl (lv_at hl 2 rfl) ?_
  refine lv_aload_n hx hb dL_law_656 rfl (lv_at hl 3 rfl) ?_
  refine lv_iload_n hx hb dL_law_657 rfl (lv_at hl 0 rfl) ?_
  refine lv_iconst (v := 1) hx hb dL_law_658 (by decide) ?_
  refine lv_iadd hx hb dL_law_659 ?_
  refine va_sld hx hb hX hbl hbA hW.2.2 (in_L (k := 1) rfl (by decide) hi hL) dL_law_660 ?_
  refine lv_aload_n hx hb dL_law_661 rfl (lv_at hl 3 rfl) ?_
  refine lv_iload_n hx hb dL_law_662 rfl (lv_at hl 0 rfl) ?_
  refine lv_iconst (v := 2) hx hb dL_law_663 (by decide) ?_
  refine lv_iadd hx hb dL_law_664 ?_
  refine va_sld hx hb hX hbl hbA hW.2.2 (in_L (k := 2) rfl (by decide) hi hL) dL_law_665 ?_
  refine lv_aload_n hx hb dL_law_666 rfl (lv_at hl 3 rfl) ?_
  refine lv_iload_n hx hb dL_law_667 rfl (lv_at hl 0 rfl) ?_
  refine lv_iconst (v := 3) hx hb dL_law_668 (by decide) ?_
  refine lv_iadd hx hb dL_law_669 ?_
  refine va_sld hx hb hX hbl hbA hW.2.2 (in_L (k := 3) rfl (by decide) hi hL) dL_law_670 ?_
  refine lv_aload_n hx hb dL_law_671 rfl (lv_at hl 3 rfl) ?_
  refine lv_iload_n hx hb dL_law_672 rfl (lv_at hl 0 rfl) ?_
  refine lv_iconst (v := 4) hx hb dL_law_673 (by decide) ?_
  refine lv_iadd hx hb dL_law_674 ?_
  refine va_sld hx hb hX hbl hbA hW.2.2 (in_L (k := 4) rfl (by decide) hi hL) dL_law_675 ?_
  refine g_callvI (σ' := σ1) (τ' := τ1) (rest := []) (As := [.int (xs (nI i + 1).toNatClampNeg), .int (xs (nI i + 2).toNatClampNeg), .int (xs (nI i + 3).toNatClampNeg), .int (xs (nI i + 4).toNatClampNeg)]) C hW kv_L_93 0 (by decide) (gL_9 rfl) rfl hk ⟨Nat.le_of_ble_eq_true rfl, Nat.le_of_ble_eq_true rfl⟩ ⟨Nat.le_of_ble_eq_true rfl, Nat.le_of_ble_eq_true rfl⟩ rfl hl.1 rfl (Nat.le_of_ble_eq_true rfl) dL_law_676 (fun H locs hW => ?_)
  refine lv_aload_n hx hb dL_law_679 rfl (lv_at hl 1 rfl) ?_
  refine lv_aload_n hx hb dL_law_680 rfl (lv_at hl 3 rfl) ?_
  refine lv_iload_n hx hb dL_law_681 rfl (lv_at hl 0 rfl) ?_
  refine lv_iconst (v := 1) hx hb dL_law_682 (by decide) ?_
  refine lv_iadd hx hb dL_law_683 ?_
  refine va_sld hx hb hX hbl hbA hW.2.2 (in_L (k := 1) rfl (by decide) hi hL) dL_law_684 ?_
  refine lv_aload_n hx hb dL_law_685 rfl (lv_at hl 3 rfl) ?_
  refine lv_iload_n hx hb dL_law_686 rfl (lv_at hl 0 rfl) ?_
  refine lv_iconst (v := 2) hx hb dL_law_687 (by decide) ?_
  refine lv_iadd hx hb dL_law_688 ?_
  refine va_sld hx hb hX hbl hbA hW.2.2 (in_L (k := 2) rfl (by decide) hi hL) dL_law_689 ?_
  refine lv_aload_n hx hb dL_law_690 rfl (lv_at hl 3 rfl) ?_
  refine lv_iload_n hx hb dL_law_691 rfl (lv_at hl 0 rfl) ?_
  refine lv_iconst (v := 3) hx hb dL_law_692 (by decide) ?_
  refine lv_iadd hx hb dL_law_693 ?_
  refine va_sld hx hb hX hbl hbA hW.2.2 (in_L (k := 3) rfl (by decide) hi hL) dL_law_694 ?_
  refine lv_aload_n hx hb dL_law_695 rfl (lv_at hl 3 rfl) ?_
  refine lv_iload_n hx hb dL_law_696 rfl (lv_at hl 0 rfl) ?_
  refine lv_iconst (v := 4) hx hb dL_law_697 (by decide) ?_
  refine lv_iadd hx hb dL_law_698 ?_
  refine va_sld hx hb hX hbl hbA hW.2.2 (in_L (k := 4) rfl (by decide) hi hL) dL_law_699 ?_
  refine g_callvI (σ' := σ2) (τ' := τ2) (rest := [.int r]) (As := [.int (xs (nI i + 1).toNatClampNeg), .int (xs (nI i + 2).toNatClampNeg), .int (xs (nI i + 3).toNatClampNeg), .int (xs (nI i + 4).toNatClampNeg)]) C hW kv_L_97 96 (by decide) (gL_10 rfl) rfl hm ⟨Nat.le_of_ble_eq_true rfl, Nat.le_of_ble_eq_true rfl⟩ ⟨Nat.le_of_ble_eq_true rfl, Nat.le_of_ble_eq_true rfl⟩ rfl hl.1 rfl (Nat.le_of_ble_eq_true rfl) dL_law_700 (fun H locs hW => ?_)
  exact lv_icmp_eq (tgt := 824) hx hb dL_law_703 (by decide) (fun _ => kk _ _ _ _ hW hI2) (fun zz => absurd rfl zz)
set_option maxHeartbeats 4000000 in
set_option maxRecDepth 100000 in
theorem law_rate (C : gCx p s m #[Value.ref b] c G cL_law 4 RL) (hX : va_X b L xs s s.heap) (hbl : b < s.heap.size) (hbA : ¬ gA G b) (hW : gW G s σ τ H locs) (hI : gInv σ τ) (hl : lv_has ls 4 [(3, .int (nI i)), (2, .ref (gAd G 96)), (1, .ref (gAd G 0)), (0, .ref b)]) (hi : i + 5 ≤ L) (hL : L ≤ 2560) (kk : ∀ (σ2 : gSt) (τ2 : Nat → Int64) (H2 : Heap) (locs2 : List Loc), gW G s σ2 τ2 H2 locs2 → gInv σ2 τ2 → W p l e room_1 s m #[Value.ref b] below meth c H2 locs2 600000 7302250 Q (F0 m 824 ls [])) : W p l e room_1 s m #[Value.ref b] below meth c H locs 600000 7302250 Q (F0 m 708 ls []) := by
  have hx := C.1
  have hb := C.2.1
  obtain ⟨r, σ1, τ1, σ2, τ2, hk, hm, hI2⟩ := s_rate l G hI (xs (nI i + 1).toNatClampNeg) (xs (nI i + 2).toNatClampNeg)
  refine lv_aload_n hx hb dL_law_708 rfl (lv_at hl 2 rfl) ?_
  refine lv_aload_n hx hb dL_law_709 rfl (lv_at hl 3 rfl) ?_
  refine lv_iload_n hx hb dL_law_710 rfl (lv_at hl 0 rfl) ?_
  refine lv_iconst (v := 1) hx hb dL_law_711 (by decide) ?_
  refine lv_iadd hx hb dL_law_712 ?_
  refine va_sld hx hb hX hbl hbA hW.2.2 (in_L (k := 1) rfl (by decide) hi hL) dL_law_713 ?_
  refine lv_aload_n hx hb dL_law_714 rfl (lv_at hl 3 rfl) ?_
  refine lv_iload_n hx hb dL_law_715 rfl (lv_at hl 0 rfl) ?_
  refine lv_iconst (v := 2) hx hb dL_law_716 (by decide) ?_
  refine lv_iadd hx hb dL_law_717 ?_
  refine va_sld hx hb hX hbl hbA hW.2.2 (in_L (k := 2) rfl (by decide) hi hL) dL_law_718 ?_
  refine g_callvI (σ' := σ1) (τ' := τ1) (rest := []) (As := [.int (xs (nI i + 1).toNatClampNeg), .int (xs (nI i + 2).toNatClampNeg)]) C hW kv_L_98 0 (by decide) (gL_9 rfl) rfl hk ⟨Nat.le_of_ble_eq_true rfl, Nat.le_of_ble_eq_true rfl⟩ ⟨Nat.le_of_ble_eq_true rfl, Nat.le_of_ble_eq_true rfl⟩ rfl hl.1 rfl (Nat.le_of_ble_eq_true rfl) dL_law_719 (fun H locs hW => ?_)
  refine lv_aload_n hx hb dL_law_722 rfl (lv_at hl 1 rfl) ?_
  refine lv_aload_n hx hb dL_law_723 rfl (lv_at hl 3 rfl) ?_
  refine lv_iload_n hx hb dL_law_724 rfl (lv_at hl 0 rfl) ?_
  refine lv_iconst (v := 1) hx hb dL_law_725 (by decide) ?_
  refine lv_iadd hx hb dL_law_726 ?_
  refine va_sld hx hb hX hbl hbA hW.2.2 (in_L (k := 1) rfl (by decide) hi hL) dL_law_727 ?_
  refine lv_aload_n hx hb dL_law_728 rfl (lv_at hl 3 rfl) ?_
  refine lv_iload_n hx hb dL_law_729 rfl (lv_at hl 0 rfl) ?_
  refine lv_iconst (v := 2) hx hb dL_law_730 (by decide) ?_
  refine lv_iadd hx hb dL_law_731 ?_
  refine va_sld hx hb hX hbl hbA hW.2.2 (in_L (k := 2) rfl (by decide) hi hL) dL_law_732 ?_
  refine g_callvI (σ' := σ2) (τ' := τ2) (rest := [.int r]) (As := [.int (xs (nI i + 1).toNatClampNeg), .int (xs (nI i + 2).toNatClampNeg)]) C hW kv_L_101 96 (by decide) (gL_10 rfl) rfl hm ⟨Nat.le_of_ble_eq_true rfl, Nat.le_of_ble_eq_true rfl⟩ ⟨Nat.le_of_ble_eq_true rfl, Nat.le_of_ble_eq_true rfl⟩ rfl hl.1 rfl (Nat.le_of_ble_eq_true rfl) dL_law_733 (fun H locs hW => ?_)
  exact lv_icmp_eq (tgt := 824) hx hb dL_law_736 (by decide) (fun _ => kk _ _ _ _ hW hI2) (fun zz => absurd rfl zz)
set_option maxHeartbeats 4000000 in
set_option maxRecDepth 100000 in
theorem law_keep (C : gCx p s m #[Value.ref b] c G cL_law 4 RL) (hX : va_X b L xs s s.heap) (hbl : b < s.heap.size) (hbA : ¬ gA G b) (hW : gW G s σ τ H locs) (hI : gInv σ τ) (hl : lv_has ls 4 [(3, .int (nI i)), (2, .ref (gAd G 96)), (1, .ref (gAd G 0)), (0, .ref b)]) (hi : i + 5 ≤ L) (hL : L ≤ 2560) (kk : ∀ (σ2 : gSt) (τ2 : Nat → Int64) (H2 : Heap) (locs2 : List Loc), gW G s σ2 τ2 H2 locs2 → gInv σ2 τ2 → W p l e room_1 s m #[Value.ref b] below meth c H2 locs2 600000 7302250 Q (F0 m 824 ls [])) : W p l e room_1 s m #[Value.ref b] below meth c H locs 600000 7302250 Q (F0 m 741 ls []) := by
  have hx := C.1
  have hb := C.2.1
  obtain ⟨r, σ1, τ1, σ2, τ2, hk, hm, hI2⟩ := s_keep l G hI (xs (nI i + 1).toNatClampNeg)
  refine lv_aload_n hx hb dL_law_741 rfl (lv_at hl 2 rfl) ?_
  refine lv_aload_n hx hb dL_law_742 rfl (lv_at hl 3 rfl) ?_
  refine lv_iload_n hx hb dL_law_743 rfl (lv_at hl 0 rfl) ?_
  refine lv_iconst (v := 1) hx hb dL_law_744 (by decide) ?_
  refine lv_iadd hx hb dL_law_745 ?_
  refine va_sld hx hb hX hbl hbA hW.2.2 (in_L (k := 1) rfl (by decide) hi hL) dL_law_746 ?_
  refine g_callvI (σ' := σ1) (τ' := τ1) (rest := []) (As := [.int (xs (nI i + 1).toNatClampNeg)]) C hW kv_L_102 0 (by decide) (gL_9 rfl) rfl hk ⟨Nat.le_of_ble_eq_true rfl, Nat.le_of_ble_eq_true rfl⟩ ⟨Nat.le_of_ble_eq_true rfl, Nat.le_of_ble_eq_true rfl⟩ rfl hl.1 rfl (Nat.le_of_ble_eq_true rfl) dL_law_747 (fun H locs hW => ?_)
  refine lv_aload_n hx hb dL_law_750 rfl (lv_at hl 1 rfl) ?_
  refine lv_aload_n hx hb dL_law_751 rfl (lv_at hl 3 rfl) ?_
  refine lv_iload_n hx hb dL_law_752 rfl (lv_at hl 0 rfl) ?_
  refine lv_iconst (v := 1) hx hb dL_law_753 (by decide) ?_
  refine lv_iadd hx hb dL_law_754 ?_
  refine va_sld hx hb hX hbl hbA hW.2.2 (in_L (k := 1) rfl (by decide) hi hL) dL_law_755 ?_
  refine g_callvI (σ' := σ2) (τ' := τ2) (rest := [.int r]) (As := [.int (xs (nI i + 1).toNatClampNeg)]) C hW kv_L_105 96 (by decide) (gL_10 rfl) rfl hm ⟨Nat.le_of_ble_eq_true rfl, Nat.le_of_ble_eq_true rfl⟩ ⟨Nat.le_of_ble_eq_true rfl, Nat.le_of_ble_eq_true rfl⟩ rfl hl.1 rfl (Nat.le_of_ble_eq_true rfl) dL_law_756 (fun H locs hW => ?_)
  exact lv_icmp_eq (tgt := 824) hx hb dL_law_759 (by decide) (fun _ => kk _ _ _ _ hW hI2) (fun zz => absurd rfl zz)
set_option maxHeartbeats 4000000 in
set_option maxRecDepth 100000 in
theorem law_back (C : gCx p s m #[Value.ref b] c G cL_law 4 RL) (hX : va_X b L xs s s.heap) (hbl : b < s.heap.size) (hbA : ¬ gA G b) (hW : gW G s σ τ H locs) (hI : gInv σ τ) (hl : lv_has ls 4 [(3, .int (nI i)), (2, .ref (gAd G 96)), (1, .ref (gAd G 0)), (0, .ref b)]) (hi : i + 5 ≤ L) (hL : L ≤ 2560) (kk : ∀ (σ2 : gSt) (τ2 : Nat → Int64) (H2 : Heap) (locs2 : List Loc), gW G s σ2 τ2 H2 locs2 → gInv σ2 τ2 → W p l e room_1 s m #[Value.ref b] below meth c H2 locs2 600000 7302250 Q (F0 m 824 ls [])) : W p l e room_1 s m #[Value.ref b] below meth c H locs 600000 7302250 Q (F0 m 764 ls []) := by
  have hx := C.1
  have hb := C.2.1
  obtain ⟨r, σ1, τ1, σ2, τ2, hk, hm, hI2⟩ := s_back l G hI (xs (nI i + 1).toNatClampNeg)
  refine lv_aload_n hx hb dL_law_764 rfl (lv_at hl 2 rfl) ?_
  refine lv_aload_n hx hb dL_law_765 rfl (lv_at hl 3 rfl) ?_
  refine lv_iload_n hx hb dL_law_766 rfl (lv_at hl 0 rfl) ?_
  refine lv_iconst (v := 1) hx hb dL_law_767 (by decide) ?_
  refine lv_iadd hx hb dL_law_768 ?_
  refine va_sld hx hb hX hbl hbA hW.2.2 (in_L (k := 1) rfl (by decide) hi hL) dL_law_769 ?_
  refine g_callvI (σ' := σ1) (τ' := τ1) (rest := []) (As := [.int (xs (nI i + 1).toNatClampNeg)]) C hW kv_L_106 0 (by decide) (gL_9 rfl) rfl hk ⟨Nat.le_of_ble_eq_true rfl, Nat.le_of_ble_eq_true rfl⟩ ⟨Nat.le_of_ble_eq_true rfl, Nat.le_of_ble_eq_true rfl⟩ rfl hl.1 rfl (Nat.le_of_ble_eq_true rfl) dL_law_770 (fun H locs hW => ?_)
  refine lv_aload_n hx hb dL_law_773 rfl (lv_at hl 1 rfl) ?_
  refine lv_aload_n hx hb dL_law_774 rfl (lv_at hl 3 rfl) ?_
  refine lv_iload_n hx hb dL_law_775 rfl (lv_at hl 0 rfl) ?_
  refine lv_iconst (v := 1) hx hb dL_law_776 (by decide) ?_
  refine lv_iadd hx hb dL_law_777 ?_
  refine va_sld hx hb hX hbl hbA hW.2.2 (in_L (k := 1) rfl (by decide) hi hL) dL_law_778 ?_
  refine g_callvI (σ' := σ2) (τ' := τ2) (rest := [.int r]) (As := [.int (xs (nI i + 1).toNatClampNeg)]) C hW kv_L_109 96 (by decide) (gL_10 rfl) rfl hm ⟨Nat.le_of_ble_eq_true rfl, Nat.le_of_ble_eq_true rfl⟩ ⟨Nat.le_of_ble_eq_true rfl, Nat.le_of_ble_eq_true rfl⟩ rfl hl.1 rfl (Nat.le_of_ble_eq_true rfl) dL_law_779 (fun H locs hW => ?_)
  exact lv_icmp_eq (tgt := 824) hx hb dL_law_782 (by decide) (fun _ => kk _ _ _ _ hW hI2) (fun zz => absurd rfl zz)
set_option maxHeartbeats 4000000 in
set_option maxRecDepth 100000 in
theorem law_count (C : gCx p s m #[Value.ref b] c G cL_law 4 RL) (hX : va_X b L xs s s.heap) (hbl : b < s.heap.size) (hbA : ¬ gA G b) (hW : gW G s σ τ H locs) (hI : gInv σ τ) (hl : lv_has ls 4 [(3, .int (nI i)), (2, .ref (gAd G 96)), (1, .ref (gAd G 0)), (0, .ref b)]) (hi : i + 5 ≤ L) (hL : L ≤ 2560) (kk : ∀ (σ2 : gSt) (τ2 : Nat → Int64) (H2 : Heap) (locs2 : List Loc), gW G s σ2 τ2 H2 locs2 → gInv σ2 τ2 → W p l e room_1 s m #[Value.ref b] below meth c H2 locs2 600000 7302250 Q (F0 m 824 ls [])) : W p l e room_1 s m #[Value.ref b] below meth c H locs 600000 7302250 Q (F0 m 787 ls []) := by
  have hx := C.1
  have hb := C.2.1
  obtain ⟨r, σ1, τ1, σ2, τ2, hk, hm, hI2⟩ := s_count l G hI (xs (nI i + 1).toNatClampNeg)
  refine lv_aload_n hx hb dL_law_787 rfl (lv_at hl 2 rfl) ?_
  refine lv_aload_n hx hb dL_law_788 rfl (lv_at hl 3 rfl) ?_
  refine lv_iload_n hx hb dL_law_789 rfl (lv_at hl 0 rfl) ?_
  refine lv_iconst (v := 1) hx hb dL_law_790 (by decide) ?_
  refine lv_iadd hx hb dL_law_791 ?_
  refine va_sld hx hb hX hbl hbA hW.2.2 (in_L (k := 1) rfl (by decide) hi hL) dL_law_792 ?_
  refine g_callvI (σ' := σ1) (τ' := τ1) (rest := []) (As := [.int (xs (nI i + 1).toNatClampNeg)]) C hW kv_L_110 0 (by decide) (gL_9 rfl) rfl hk ⟨Nat.le_of_ble_eq_true rfl, Nat.le_of_ble_eq_true rfl⟩ ⟨Nat.le_of_ble_eq_true rfl, Nat.le_of_ble_eq_true rfl⟩ rfl hl.1 rfl (Nat.le_of_ble_eq_true rfl) dL_law_793 (fun H locs hW => ?_)
  refine lv_aload_n hx hb dL_law_796 rfl (lv_at hl 1 rfl) ?_
  refine lv_aload_n hx hb dL_law_797 rfl (lv_at hl 3 rfl) ?_
  refine lv_iload_n hx hb dL_law_798 rfl (lv_at hl 0 rfl) ?_
  refine lv_iconst (v := 1) hx hb dL_law_799 (by decide) ?_
  refine lv_iadd hx hb dL_law_800 ?_
  refine va_sld hx hb hX hbl hbA hW.2.2 (in_L (k := 1) rfl (by decide) hi hL) dL_law_801 ?_
  refine g_callvI (σ' := σ2) (τ' := τ2) (rest := [.int r]) (As := [.int (xs (nI i + 1).toNatClampNeg)]) C hW kv_L_113 96 (by decide) (gL_10 rfl) rfl hm ⟨Nat.le_of_ble_eq_true rfl, Nat.le_of_ble_eq_true rfl⟩ ⟨Nat.le_of_ble_eq_true rfl, Nat.le_of_ble_eq_true rfl⟩ rfl hl.1 rfl (Nat.le_of_ble_eq_true rfl) dL_law_802 (fun H locs hW => ?_)
  exact lv_icmp_eq (tgt := 824) hx hb dL_law_805 (by decide) (fun _ => kk _ _ _ _ hW hI2) (fun zz => absurd rfl zz)
set_option maxHeartbeats 4000000 in
set_option maxRecDepth 100000 in
theorem law_trace (C : gCx p s m #[Value.ref b] c G cL_law 4 RL) (hX : va_X b L xs s s.heap) (hbl : b < s.heap.size) (hbA : ¬ gA G b) (hW : gW G s σ τ H locs) (hI : gInv σ τ) (hl : lv_has ls 4 [(3, .int (nI i)), (2, .ref (gAd G 96)), (1, .ref (gAd G 0)), (0, .ref b)]) (hi : i + 5 ≤ L) (hL : L ≤ 2560) (kk : ∀ (σ2 : gSt) (τ2 : Nat → Int64) (H2 : Heap) (locs2 : List Loc), gW G s σ2 τ2 H2 locs2 → gInv σ2 τ2 → W p l e room_1 s m #[Value.ref b] below meth c H2 locs2 600000 7302250 Q (F0 m 824 ls [])) : W p l e room_1 s m #[Value.ref b] below meth c H locs 600000 7302250 Q (F0 m 810 ls []) := by
  have hx := C.1
  have hb := C.2.1
  obtain ⟨r, σ1, τ1, σ2, τ2, hk, hm, hI2⟩ := s_trace l G hI
  refine lv_aload_n hx hb dL_law_810 rfl (lv_at hl 2 rfl) ?_
  refine g_callvJ (σ' := σ1) (τ' := τ1) (rest := []) (As := []) C hW kv_L_114 0 (by decide) (gL_9 rfl) rfl hk ⟨Nat.le_of_ble_eq_true rfl, Nat.le_of_ble_eq_true rfl⟩ ⟨Nat.le_of_ble_eq_true rfl, Nat.le_of_ble_eq_true rfl⟩ rfl hl.1 rfl (Nat.le_of_ble_eq_true rfl) dL_law_811 (fun H locs hW => ?_)
  refine lv_aload_n hx hb dL_law_814 rfl (lv_at hl 1 rfl) ?_
  refine g_callvJ (σ' := σ2) (τ' := τ2) (rest := [.long r]) (As := []) C hW kv_L_118 96 (by decide) (gL_10 rfl) rfl hm ⟨Nat.le_of_ble_eq_true rfl, Nat.le_of_ble_eq_true rfl⟩ ⟨Nat.le_of_ble_eq_true rfl, Nat.le_of_ble_eq_true rfl⟩ rfl hl.1 rfl (Nat.le_of_ble_eq_true rfl) dL_law_815 (fun H locs hW => ?_)
  refine W.lcmp hx hb dL_law_818 ?_
  exact lv_if_eq (tgt := 824) hx hb dL_law_819 (by decide) (fun _ => kk _ _ _ _ hW hI2) (fun zz => absurd ((lg_cmp_eq r r).mpr rfl) zz)
end LAW
