/-! ===== the reference: takes, numbers, items ===== -/
def mTakeS (σ : gSt) (t : Nat) (b : Bool) : gSt := if σ 96 8 < 0 then (if b = true then mAdvS σ t else gu σ 96 8 (σ 96 6)) else σ
def mTakeR (σ : gSt) (b : Bool) : Int32 := if σ 96 8 < 0 then (if b = true then σ 96 7 else 0) else 0
theorem mAdvS_ne {σ : gSt} {t c : Nat} (h : c ≠ 96) : mAdvS σ t c = σ c := mPS_ne h
theorem mTakeS_ne {σ : gSt} {t c : Nat} {b : Bool} (h : c ≠ 96) : mTakeS σ t b c = σ c := by
  unfold mTakeS
  split
  · split
    · exact mAdvS_ne h
    · exact gu_ne h
  · rfl
theorem pOk_gu {σ : gSt} {t c k : Nat} {x : Int32} (hc : ¬ (c = 96 ∧ (k = 3 ∨ k = 4))) (h : pOk σ t) : pOk (gu σ c k x) t := by
  obtain ⟨h1, h2, q, h3, h4⟩ := h
  refine ⟨?_, h2, q, h3, ?_⟩
  · rw [gu_at, if_neg (fun z => hc ⟨z.1.symm, Or.inl z.2.symm⟩)]; exact h1
  · rw [gu_at, if_neg (fun z => hc ⟨z.1.symm, Or.inr z.2.symm⟩)]; exact h4
theorem pOk_take {σ : gSt} {t : Nat} {b : Bool} (h : pOk σ t) : pOk (mTakeS σ t b) t := by
  unfold mTakeS
  split
  · split
    · exact pOk_adv h
    · exact pOk_gu (by decide) h
  · exact h
def mNumOk (σ : gSt) (a b : Int32) : Bool := decide (σ 96 5 = 2) && mIn (σ 96 7) a b
def mNumS (σ : gSt) (t : Nat) (a b : Int32) : gSt := mTakeS σ t (mNumOk σ a b)
def mNumR (σ : gSt) (a b : Int32) : Int32 := mTakeR σ (mNumOk σ a b)
theorem pOk_num {σ : gSt} {t : Nat} {a b : Int32} (h : pOk σ t) : pOk (mNumS σ t a b) t := pOk_take h
theorem mNumS_ne {σ : gSt} {t c : Nat} {a b : Int32} (h : c ≠ 96) : mNumS σ t a b c = σ c := mTakeS_ne h
def mBegS (σ : gSt) : gSt := gu (gu (gu (gu (gu (gu σ 96 10 0) 98 5 2) 98 6 0) 98 7 0) 98 8 2) 98 9 3
def mMay (σ : gSt) (a0 : Int32) : Bool :=
  if σ 96 7 = 119 then decide (a0 = 0) else if σ 96 7 = 112 then !decide (5 ≤ σ 98 6) else if σ 96 7 = 100 then !decide (8 ≤ σ 98 7) else decide (σ 96 10 &&& (if σ 96 7 = 103 then 1 else 2) = 0)
/-- a number is read and put into a row -/
def mDst (c o : Nat) (a b : Int32) (t : Nat) (S : gSt) : gSt := gu (mNumS S t a b) c o (mNumR S a b)
theorem pOk_dst {σ : gSt} {t c o : Nat} {a b : Int32} (hc : c ≠ 96) (h : pOk σ t) : pOk (mDst c o a b t σ) t := pOk_gu (fun q => hc q.1) (pOk_num h)
abbrev q6 (σ : gSt) : Nat := (σ 98 6).toNatClampNeg
abbrev q7 (σ : gSt) : Nat := (σ 98 7).toNatClampNeg
def mDutyT (σ : gSt) (t : Nat) : gSt := mDst 103 (8 + q7 σ) 1 60 t (mDst 102 (8 + q7 σ) 0 239 t (mDst 101 (8 + q7 σ) 0 (σ 98 5 - 1) t (mDst 100 (q7 σ) 0 (σ 98 6 - 1) t σ)))
def mItemS (σ : gSt) (t : Nat) (a0 : Int32) : gSt :=
  if a0 = 119 then mDst 98 5 2 6 t σ
  else if a0 = 112 then gu (mDst 99 (5 + q6 σ) 0 (σ 98 5 - 1) t σ) 98 6 (mDst 99 (5 + q6 σ) 0 (σ 98 5 - 1) t σ 98 6 + 1)
  else if a0 = 100 then gu (mDutyT σ t) 98 7 (mDutyT σ t 98 7 + 1)
  else if a0 = 103 then gu (mDst 98 8 1 9 t σ) 96 10 (mDst 98 8 1 9 t σ 96 10 ||| 1)
  else gu (mDst 98 9 0 9 t σ) 96 10 (mDst 98 9 0 9 t σ 96 10 ||| 2)
def gfill (c : Nat) (σ : gSt) : Nat → gSt
  | 0 => σ
  | k + 1 => gu (gfill c σ k) c k 0
theorem gfill_ne {c c2 : Nat} {σ : gSt} (h : c2 ≠ c) : ∀ n, gfill c σ n c2 = σ c2
  | 0 => rfl
  | n + 1 => by rw [gfill, gu_ne h, gfill_ne h n]
def mSetP (σ : gSt) : Nat → gSt
  | 0 => σ
  | p + 1 => gu (gu (mSetP σ p) 99 p (mSetP σ p 99 (5 + p))) 104 p (if mSetP σ p 98 1 ≤ nI p then 0 else gu (mSetP σ p) 99 p (mSetP σ p 99 (5 + p)) 99 p)
def mSetD1 (S : gSt) (d : Nat) : gSt := gu (gu (gu S 101 d (S 101 (8 + d))) 102 d (S 102 (8 + d))) 103 d (S 103 (8 + d))
def mSetD (σ : gSt) : Nat → gSt
  | 0 => σ
  | d + 1 => gu (mSetD1 (mSetD σ d) d) 104 (17 + d) (if mSetD σ d 98 2 ≤ nI d then 0 else mSetD σ d 100 d)
def mSettle (σ : gSt) : gSt := gu (gu (gu (gu (gu (mSetD (mSetP (gfill 104 (gcp 98 98 0 5 σ 5) 25) 5) 8) 96 3 0) 96 24 0) 96 20 0) 106 0 0) 106 1 0
/-- one item -/
def mB1 (S : gSt) (i : Nat) : Bool := decide (S 96 5 = 1) && mMay S (nI i)
def mS2 (S : gSt) (t i : Nat) : gSt := if mTakeS S t (mB1 S i) 96 8 < 0 then mItemS (mTakeS S t (mB1 S i)) t (mTakeR S (mB1 S i)) else mTakeS S t (mB1 S i)
def mStep (S : gSt) (t i : Nat) : gSt := mTakeS (mS2 S t i) t (decide (mS2 S t i 96 5 = 3))
def mTownL (t : Nat) : Nat → gSt → Nat → gSt × Nat
  | 0, S, i => (S, i)
  | n + 1, S, i => if S 96 8 < 0 ∧ ¬ S 96 5 = 0 then mTownL t n (mStep S t i) (i + 1) else (S, i)
def mTown0 (σ : gSt) (t : Nat) : gSt := mAdvS (mBegS (gu (gu σ 96 8 (-1)) 96 4 0)) t
/-- the state and the items behind the reading -/
def mTown (σ : gSt) (t : Nat) : gSt × Nat := mTownL t (t + 1) (mTown0 σ t) 0
set_option maxHeartbeats 4000000 in
set_option maxRecDepth 100000 in
theorem m_settles (l : Launch) (G : gG) (σ : gSt) (τ : Nat → Int64) : gV l yX10_settles cX10_settles 2 (none : Option Jvm.ClassFile.FieldType) 0 0 G [.ref (gAd G 96)] σ τ (mSettle σ) τ := by
  refine gMet_of (by decide) (Nat.le_of_ble_eq_true rfl) ?_
  intro p e s m args below meth c C hr hlk ls hl hW
  have hx := C.1
  have hb := C.2.1
  have hl : lv_has ls 2 [(0, .ref (gAd G 96))] := hl
  refine lv_iconst (v := 0) hx hb dX10_settles_0 (by decide) ?_
  refine lv_istore_n (lv' := [(1, .int 0), (0, .ref (gAd G 96))]) hx hb dX10_settles_1 rfl hl (by decide) rfl (fun ls hl => ?_)
  have L2 : ∀ (n : Nat) (k : Nat) (H : Heap) (locs : List Loc) (ls : Array Slot), n + k = 5 → gW G s (gcp 98 98 0 5 σ k) τ H locs → lv_has ls 2 [(1, .int (nI k)), (0, .ref (gAd G 96))] → W p l e (gRm 0 0) s m args below meth c H locs 0 0 (MQ below (gQv G (mSettle σ) τ) args s 0 0 (gA G)) (F0 m 2 ls []) := by
    intro n
    induction n with
    | zero =>
      intro k H locs ls hm hW hl
      refine lv_iload_n hx hb dX10_settles_2 rfl (lv_at hl 0 rfl) ?_
      refine lv_iconst (v := 5) hx hb dX10_settles_3 (by decide) ?_
      refine lv_icmp_ge (tgt := 27) hx hb dX10_settles_4 (by decide) (fun _ => ?_) (fun zz => absurd (show nI 5 ≤ nI k from nI_le (by omega) (by omega)) zz)
      have hk : k = 5 := by omega
      subst hk
      refine lv_iconst (v := 0) hx hb dX10_settles_27 (by decide) ?_
      refine lv_istore_n (lv' := [(1, .int 0), (0, .ref (gAd G 96))]) hx hb dX10_settles_28 rfl hl (by decide) rfl (fun ls hl => ?_)
      have L29 : ∀ (n : Nat) (k : Nat) (H : Heap) (locs : List Loc) (ls : Array Slot), n + k = 25 → gW G s (gfill 104 (gcp 98 98 0 5 σ 5) k) τ H locs → lv_has ls 2 [(1, .int (nI k)), (0, .ref (gAd G 96))] → W p l e (gRm 0 0) s m args below meth c H locs 0 0 (MQ below (gQv G (mSettle σ) τ) args s 0 0 (gA G)) (F0 m 29 ls []) := by
        intro n
        induction n with
        | zero =>
          intro k H locs ls hm hW hl
          refine lv_iload_n hx hb dX10_settles_29 rfl (lv_at hl 0 rfl) ?_
          refine lv_bipush (v := 25) hx hb dX10_settles_30 (by decide) ?_
          refine lv_icmp_ge (tgt := 48) hx hb dX10_settles_32 (by decide) (fun _ => ?_) (fun zz => absurd (show nI 25 ≤ nI k from nI_le (by omega) (by omega)) zz)
          have hk : k = 25 := by omega
          subst hk
          refine lv_iconst (v := 0) hx hb dX10_settles_48 (by decide) ?_
          refine lv_istore_n (lv' := [(1, .int 0), (0, .ref (gAd G 96))]) hx hb dX10_settles_49 rfl hl (by decide) rfl (fun ls hl => ?_)
          have L50 : ∀ (n : Nat) (k : Nat) (H : Heap) (locs : List Loc) (ls : Array Slot), n + k = 5 → gW G s (mSetP (gfill 104 (gcp 98 98 0 5 σ 5) 25) k) τ H locs → lv_has ls 2 [(1, .int (nI k)), (0, .ref (gAd G 96))] → W p l e (gRm 0 0) s m args below meth c H locs 0 0 (MQ below (gQv G (mSettle σ) τ) args s 0 0 (gA G)) (F0 m 50 ls []) := by
            intro n
            induction n with
            | zero =>
              intro k H locs ls hm hW hl
              refine lv_iload_n hx hb dX10_settles_50 rfl (lv_at hl 0 rfl) ?_
              refine lv_iconst (v := 5) hx hb dX10_settles_51 (by decide) ?_
              refine lv_icmp_ge (tgt := 103) hx hb dX10_settles_52 (by decide) (fun _ => ?_) (fun zz => absurd (show nI 5 ≤ nI k from nI_le (by omega) (by omega)) zz)
              have hk : k = 5 := by omega
              subst hk
              refine lv_iconst (v := 0) hx hb dX10_settles_103 (by decide) ?_
              refine lv_istore_n (lv' := [(1, .int 0), (0, .ref (gAd G 96))]) hx hb dX10_settles_104 rfl hl (by decide) rfl (fun ls hl => ?_)
              have L105 : ∀ (n : Nat) (k : Nat) (H : Heap) (locs : List Loc) (ls : Array Slot), n + k = 8 → gW G s (mSetD (mSetP (gfill 104 (gcp 98 98 0 5 σ 5) 25) 5) k) τ H locs → lv_has ls 2 [(1, .int (nI k)), (0, .ref (gAd G 96))] → W p l e (gRm 0 0) s m args below meth c H locs 0 0 (MQ below (gQv G (mSettle σ) τ) args s 0 0 (gA G)) (F0 m 105 ls []) := by
                intro n
                induction n with
                | zero =>
                  intro k H locs ls hm hW hl
                  refine lv_iload_n hx hb dX10_settles_105 rfl (lv_at hl 0 rfl) ?_
                  refine lv_bipush (v := 8) hx hb dX10_settles_106 (by decide) ?_
                  refine lv_icmp_ge (tgt := 191) hx hb dX10_settles_108 (by decide) (fun _ => ?_) (fun zz => absurd (show nI 8 ≤ nI k from nI_le (by omega) (by omega)) zz)
                  have hk : k = 8 := by omega
                  subst hk
                  refine lv_aload_n hx hb dX10_settles_191 rfl (lv_at hl 1 rfl) ?_
                  refine lv_iconst (v := 0) hx hb dX10_settles_192 (by decide) ?_
                  refine gp_X10_70 C hW (by decide) rfl dX10_settles_193 (fun H locs hW => ?_)
                  refine lv_aload_n hx hb dX10_settles_196 rfl (lv_at hl 1 rfl) ?_
                  refine lv_iconst (v := 0) hx hb dX10_settles_197 (by decide) ?_
                  refine gp_X10_121 C hW (by decide) rfl dX10_settles_198 (fun H locs hW => ?_)
                  refine lv_aload_n hx hb dX10_settles_201 rfl (lv_at hl 1 rfl) ?_
                  refine lv_iconst (v := 0) hx hb dX10_settles_202 (by decide) ?_
                  refine gp_X10_124 C hW (by decide) rfl dX10_settles_203 (fun H locs hW => ?_)
                  refine lv_aload_n hx hb dX10_settles_206 rfl (lv_at hl 1 rfl) ?_
                  refine gf_X10_37 C hW (by decide) rfl dX10_settles_207 ?_
                  refine lv_iconst (v := 0) hx hb dX10_settles_210 (by decide) ?_
                  refine lv_iconst (v := 0) hx hb dX10_settles_211 (by decide) ?_
                  refine g_zast 0 C hW (by decide) rfl rfl (by decide) (by decide) rfl dX10_settles_212 (fun H locs hW => ?_)
                  refine lv_aload_n hx hb dX10_settles_213 rfl (lv_at hl 1 rfl) ?_
                  refine gf_X10_37 C hW (by decide) rfl dX10_settles_214 ?_
                  refine lv_iconst (v := 1) hx hb dX10_settles_217 (by decide) ?_
                  refine lv_iconst (v := 0) hx hb dX10_settles_218 (by decide) ?_
                  refine g_zast 1 C hW (by decide) rfl rfl (by decide) (by decide) rfl dX10_settles_219 (fun H locs hW => ?_)
                  exact g_vret C hr hlk hW dX10_settles_220 (rfl) (rfl)
                | succ n ih105 =>
                  intro k H locs ls hm hW hl
                  refine lv_iload_n hx hb dX10_settles_105 rfl (lv_at hl 0 rfl) ?_
                  refine lv_bipush (v := 8) hx hb dX10_settles_106 (by decide) ?_
                  refine lv_icmp_ge (tgt := 191) hx hb dX10_settles_108 (by decide) (fun zz => absurd zz (show ¬ nI 8 ≤ nI k from nI_ge (by omega) (by omega))) (fun _ => ?_)
                  refine lv_aload_n hx hb dX10_settles_111 rfl (lv_at hl 1 rfl) ?_
                  refine gf_X10_22 C hW (by decide) rfl dX10_settles_112 ?_
                  refine lv_iload_n hx hb dX10_settles_115 rfl (lv_at hl 0 rfl) ?_
                  refine lv_aload_n hx hb dX10_settles_116 rfl (lv_at hl 1 rfl) ?_
                  refine gf_X10_22 C hW (by decide) rfl dX10_settles_117 ?_
                  refine lv_bipush (v := 8) hx hb dX10_settles_120 (by decide) ?_
                  refine lv_iload_n hx hb dX10_settles_122 rfl (lv_at hl 0 rfl) ?_
                  refine lv_iadd hx hb dX10_settles_123 ?_
                  refine g_ald (v := (mSetD (mSetP (gfill 104 (gcp 98 98 0 5 σ 5) 25) 5) k) 101 (8 + k)) (8 + k) C hW (by decide) rfl (gadd (rfl : 8 = nI 8) (rfl : nI k = nI k)) (show (8 + k) < 16 by omega) (by decide) rfl dX10_settles_124 ?_
                  refine g_ast k C hW (by decide) rfl rfl (show k < 16 by omega) (by decide) dX10_settles_125 (fun H locs hW => ?_)
                  refine lv_aload_n hx hb dX10_settles_126 rfl (lv_at hl 1 rfl) ?_
                  refine gf_X10_25 C hW (by decide) rfl dX10_settles_127 ?_
                  refine lv_iload_n hx hb dX10_settles_130 rfl (lv_at hl 0 rfl) ?_
                  refine lv_aload_n hx hb dX10_settles_131 rfl (lv_at hl 1 rfl) ?_
                  refine gf_X10_25 C hW (by decide) rfl dX10_settles_132 ?_
                  refine lv_bipush (v := 8) hx hb dX10_settles_135 (by decide) ?_
                  refine lv_iload_n hx hb dX10_settles_137 rfl (lv_at hl 0 rfl) ?_
                  refine lv_iadd hx hb dX10_settles_138 ?_
                  refine g_ald (v := (mSetD (mSetP (gfill 104 (gcp 98 98 0 5 σ 5) 25) 5) k) 102 (8 + k)) (8 + k) C hW (by decide) rfl (gadd (rfl : 8 = nI 8) (rfl : nI k = nI k)) (show (8 + k) < 16 by omega) (by decide) rfl dX10_settles_139 ?_
                  refine g_ast k C hW (by decide) rfl rfl (show k < 16 by omega) (by decide) dX10_settles_140 (fun H locs hW => ?_)
                  refine lv_aload_n hx hb dX10_settles_141 rfl (lv_at hl 1 rfl) ?_
                  refine gf_X10_28 C hW (by decide) rfl dX10_settles_142 ?_
                  refine lv_iload_n hx hb dX10_settles_145 rfl (lv_at hl 0 rfl) ?_
                  refine lv_aload_n hx hb dX10_settles_146 rfl (lv_at hl 1 rfl) ?_
                  refine gf_X10_28 C hW (by decide) rfl dX10_settles_147 ?_
                  refine lv_bipush (v := 8) hx hb dX10_settles_150 (by decide) ?_
                  refine lv_iload_n hx hb dX10_settles_152 rfl (lv_at hl 0 rfl) ?_
                  refine lv_iadd hx hb dX10_settles_153 ?_
                  refine g_ald (v := (mSetD (mSetP (gfill 104 (gcp 98 98 0 5 σ 5) 25) 5) k) 103 (8 + k)) (8 + k) C hW (by decide) rfl (gadd (rfl : 8 = nI 8) (rfl : nI k = nI k)) (show (8 + k) < 16 by omega) (by decide) rfl dX10_settles_154 ?_
                  refine g_ast k C hW (by decide) rfl rfl (show k < 16 by omega) (by decide) dX10_settles_155 (fun H locs hW => ?_)
                  refine lv_aload_n hx hb dX10_settles_156 rfl (lv_at hl 1 rfl) ?_
                  refine gf_X10_31 C hW (by decide) rfl dX10_settles_157 ?_
                  refine lv_bipush (v := 17) hx hb dX10_settles_160 (by decide) ?_
                  refine lv_iload_n hx hb dX10_settles_162 rfl (lv_at hl 0 rfl) ?_
                  refine lv_iadd hx hb dX10_settles_163 ?_
                  have K184 : ∀ (z : Int32), z = (if mSetD (mSetP (gfill 104 (gcp 98 98 0 5 σ 5) 25) 5) k 98 2 ≤ nI k then 0 else mSetD (mSetP (gfill 104 (gcp 98 98 0 5 σ 5) 25) 5) k 100 k) → ∀ (H : Heap) (locs : List Loc) (ls : Array Slot), gW G s (gu (gu (gu (mSetD (mSetP (gfill 104 (gcp 98 98 0 5 σ 5) 25) 5) k) 101 k ((mSetD (mSetP (gfill 104 (gcp 98 98 0 5 σ 5) 25) 5) k) 101 (8 + k))) 102 k ((mSetD (mSetP (gfill 104 (gcp 98 98 0 5 σ 5) 25) 5) k) 102 (8 + k))) 103 k ((mSetD (mSetP (gfill 104 (gcp 98 98 0 5 σ 5) 25) 5) k) 103 (8 + k))) τ H locs → lv_has ls 2 [(1, .int (nI k)), (0, .ref (gAd G 96))] → W p l e (gRm 0 0) s m args below meth c H locs 0 0 (MQ below (gQv G (mSettle σ) τ) args s 0 0 (gA G)) (F0 m 184 ls [.int z, .int (17 + (nI k)), .ref (gAd G 104)]) := by
                    intro z hz H locs ls hW hl
                    refine g_ast (17 + k) C hW (by decide) rfl (gadd (rfl : 17 = nI 17) (rfl : nI k = nI k)) (show (17 + k) < 25 by omega) (by decide) dX10_settles_184 (fun H locs hW => ?_)
                    refine lv_iinc (v := nI (k + 1)) (lv' := [(1, .int (nI (k + 1))), (0, .ref (gAd G 96))]) hx hb dX10_settles_185 hl (k := 0) rfl (nI_1 _) (by decide) rfl (fun ls hl => ?_)
                    refine lv_goto (tgt := 105) hx hb dX10_settles_188 (by decide) ?_
                    exact ih105 (k + 1) _ _ _ (by omega)  (by rw [hz] at hW; rw [mSetD, mSetD1]; exact hW) (lv_sub hl [0, 1] rfl)
                  refine lv_iload_n hx hb dX10_settles_164 rfl (lv_at hl 0 rfl) ?_
                  refine lv_aload_n hx hb dX10_settles_165 rfl (lv_at hl 1 rfl) ?_
                  refine gf_X10_13 C hW (by decide) rfl dX10_settles_166 ?_
                  refine lv_iconst (v := 2) hx hb dX10_settles_169 (by decide) ?_
                  refine g_ald (v := (mSetD (mSetP (gfill 104 (gcp 98 98 0 5 σ 5) 25) 5) k) 98 2) 2 C hW (by decide) rfl rfl (by decide) (by decide) rfl dX10_settles_170 ?_
                  refine lv_icmp_ge (tgt := 183) hx hb dX10_settles_171 (by decide) (fun c_1 => ?_) (fun c_1 => ?_)
                  · skip
                    refine lv_iconst (v := 0) hx hb dX10_settles_183 (by decide) ?_
                    exact K184 0 (by simp [bI, c_1]) _ _ _ hW (lv_sub hl [0, 1] rfl)
                  · skip
                    refine lv_aload_n hx hb dX10_settles_174 rfl (lv_at hl 1 rfl) ?_
                    refine gf_X10_19 C hW (by decide) rfl dX10_settles_175 ?_
                    refine lv_iload_n hx hb dX10_settles_178 rfl (lv_at hl 0 rfl) ?_
                    refine g_ald (v := (mSetD (mSetP (gfill 104 (gcp 98 98 0 5 σ 5) 25) 5) k) 100 k) k C hW (by decide) rfl rfl (show k < 8 by omega) (by decide) rfl dX10_settles_179 ?_
                    refine lv_goto (tgt := 184) hx hb dX10_settles_180 (by decide) ?_
                    exact K184 ((mSetD (mSetP (gfill 104 (gcp 98 98 0 5 σ 5) 25) 5) k) 100 k) (by simp [bI, c_1]) _ _ _ hW (lv_sub hl [0, 1] rfl)
              exact L105 8 0 _ _ _ (by omega)  hW (lv_sub hl [0, 1] rfl)
            | succ n ih50 =>
              intro k H locs ls hm hW hl
              refine lv_iload_n hx hb dX10_settles_50 rfl (lv_at hl 0 rfl) ?_
              refine lv_iconst (v := 5) hx hb dX10_settles_51 (by decide) ?_
              refine lv_icmp_ge (tgt := 103) hx hb dX10_settles_52 (by decide) (fun zz => absurd zz (show ¬ nI 5 ≤ nI k from nI_ge (by omega) (by omega))) (fun _ => ?_)
              refine lv_aload_n hx hb dX10_settles_55 rfl (lv_at hl 1 rfl) ?_
              refine gf_X10_16 C hW (by decide) rfl dX10_settles_56 ?_
              refine lv_iload_n hx hb dX10_settles_59 rfl (lv_at hl 0 rfl) ?_
              refine lv_aload_n hx hb dX10_settles_60 rfl (lv_at hl 1 rfl) ?_
              refine gf_X10_16 C hW (by decide) rfl dX10_settles_61 ?_
              refine lv_iconst (v := 5) hx hb dX10_settles_64 (by decide) ?_
              refine lv_iload_n hx hb dX10_settles_65 rfl (lv_at hl 0 rfl) ?_
              refine lv_iadd hx hb dX10_settles_66 ?_
              refine g_ald (v := (mSetP (gfill 104 (gcp 98 98 0 5 σ 5) 25) k) 99 (5 + k)) (5 + k) C hW (by decide) rfl (gadd (rfl : 5 = nI 5) (rfl : nI k = nI k)) (show (5 + k) < 10 by omega) (by decide) rfl dX10_settles_67 ?_
              refine g_ast k C hW (by decide) rfl rfl (show k < 10 by omega) (by decide) dX10_settles_68 (fun H locs hW => ?_)
              refine lv_aload_n hx hb dX10_settles_69 rfl (lv_at hl 1 rfl) ?_
              refine gf_X10_31 C hW (by decide) rfl dX10_settles_70 ?_
              refine lv_iconst (v := 0) hx hb dX10_settles_73 (by decide) ?_
              refine lv_iload_n hx hb dX10_settles_74 rfl (lv_at hl 0 rfl) ?_
              refine lv_iadd hx hb dX10_settles_75 ?_
              have K96 : ∀ (z : Int32), z = (if mSetP (gfill 104 (gcp 98 98 0 5 σ 5) 25) k 98 1 ≤ nI k then 0 else gu (mSetP (gfill 104 (gcp 98 98 0 5 σ 5) 25) k) 99 k (mSetP (gfill 104 (gcp 98 98 0 5 σ 5) 25) k 99 (5 + k)) 99 k) → ∀ (H : Heap) (locs : List Loc) (ls : Array Slot), gW G s (gu (mSetP (gfill 104 (gcp 98 98 0 5 σ 5) 25) k) 99 k ((mSetP (gfill 104 (gcp 98 98 0 5 σ 5) 25) k) 99 (5 + k))) τ H locs → lv_has ls 2 [(1, .int (nI k)), (0, .ref (gAd G 96))] → W p l e (gRm 0 0) s m args below meth c H locs 0 0 (MQ below (gQv G (mSettle σ) τ) args s 0 0 (gA G)) (F0 m 96 ls [.int z, .int (0 + (nI k)), .ref (gAd G 104)]) := by
                intro z hz H locs ls hW hl
                refine g_ast k C hW (by decide) rfl (gz (rfl : nI k = nI k)) (show k < 25 by omega) (by decide) dX10_settles_96 (fun H locs hW => ?_)
                refine lv_iinc (v := nI (k + 1)) (lv' := [(1, .int (nI (k + 1))), (0, .ref (gAd G 96))]) hx hb dX10_settles_97 hl (k := 0) rfl (nI_1 _) (by decide) rfl (fun ls hl => ?_)
                refine lv_goto (tgt := 50) hx hb dX10_settles_100 (by decide) ?_
                exact ih50 (k + 1) _ _ _ (by omega)  (by rw [hz] at hW; rw [mSetP]; exact hW) (lv_sub hl [0, 1] rfl)
              refine lv_iload_n hx hb dX10_settles_76 rfl (lv_at hl 0 rfl) ?_
              refine lv_aload_n hx hb dX10_settles_77 rfl (lv_at hl 1 rfl) ?_
              refine gf_X10_13 C hW (by decide) rfl dX10_settles_78 ?_
              refine lv_iconst (v := 1) hx hb dX10_settles_81 (by decide) ?_
              refine g_ald (v := (mSetP (gfill 104 (gcp 98 98 0 5 σ 5) 25) k) 98 1) 1 C hW (by decide) rfl rfl (by decide) (by decide) rfl dX10_settles_82 ?_
              refine lv_icmp_ge (tgt := 95) hx hb dX10_settles_83 (by decide) (fun c_2 => ?_) (fun c_2 => ?_)
              · skip
                refine lv_iconst (v := 0) hx hb dX10_settles_95 (by decide) ?_
                exact K96 0 (by simp [bI, c_2]) _ _ _ hW (lv_sub hl [0, 1] rfl)
              · skip
                refine lv_aload_n hx hb dX10_settles_86 rfl (lv_at hl 1 rfl) ?_
                refine gf_X10_16 C hW (by decide) rfl dX10_settles_87 ?_
                refine lv_iload_n hx hb dX10_settles_90 rfl (lv_at hl 0 rfl) ?_
                refine g_ald (v := (gu (mSetP (gfill 104 (gcp 98 98 0 5 σ 5) 25) k) 99 k ((mSetP (gfill 104 (gcp 98 98 0 5 σ 5) 25) k) 99 (5 + k))) 99 k) k C hW (by decide) rfl rfl (show k < 10 by omega) (by decide) rfl dX10_settles_91 ?_
                refine lv_goto (tgt := 96) hx hb dX10_settles_92 (by decide) ?_
                exact K96 ((gu (mSetP (gfill 104 (gcp 98 98 0 5 σ 5) 25) k) 99 k ((mSetP (gfill 104 (gcp 98 98 0 5 σ 5) 25) k) 99 (5 + k))) 99 k) (by simp [bI, c_2]) _ _ _ hW (lv_sub hl [0, 1] rfl)
          exact L50 5 0 _ _ _ (by omega)  hW (lv_sub hl [0, 1] rfl)
        | succ n ih29 =>
          intro k H locs ls hm hW hl
          refine lv_iload_n hx hb dX10_settles_29 rfl (lv_at hl 0 rfl) ?_
          refine lv_bipush (v := 25) hx hb dX10_settles_30 (by decide) ?_
          refine lv_icmp_ge (tgt := 48) hx hb dX10_settles_32 (by decide) (fun zz => absurd zz (show ¬ nI 25 ≤ nI k from nI_ge (by omega) (by omega))) (fun _ => ?_)
          refine lv_aload_n hx hb dX10_settles_35 rfl (lv_at hl 1 rfl) ?_
          refine gf_X10_31 C hW (by decide) rfl dX10_settles_36 ?_
          refine lv_iload_n hx hb dX10_settles_39 rfl (lv_at hl 0 rfl) ?_
          refine lv_iconst (v := 0) hx hb dX10_settles_40 (by decide) ?_
          refine g_ast k C hW (by decide) rfl rfl (show k < 25 by omega) (by decide) dX10_settles_41 (fun H locs hW => ?_)
          refine lv_iinc (v := nI (k + 1)) (lv' := [(1, .int (nI (k + 1))), (0, .ref (gAd G 96))]) hx hb dX10_settles_42 hl (k := 0) rfl (nI_1 _) (by decide) rfl (fun ls hl => ?_)
          refine lv_goto (tgt := 29) hx hb dX10_settles_45 (by decide) ?_
          exact ih29 (k + 1) _ _ _ (by omega)  (by rw [gfill]; exact hW) (lv_sub hl [0, 1] rfl)
      exact L29 25 0 _ _ _ (by omega)  hW (lv_sub hl [0, 1] rfl)
    | succ n ih2 =>
      intro k H locs ls hm hW hl
      refine lv_iload_n hx hb dX10_settles_2 rfl (lv_at hl 0 rfl) ?_
      refine lv_iconst (v := 5) hx hb dX10_settles_3 (by decide) ?_
      refine lv_icmp_ge (tgt := 27) hx hb dX10_settles_4 (by decide) (fun zz => absurd zz (show ¬ nI 5 ≤ nI k from nI_ge (by omega) (by omega))) (fun _ => ?_)
      refine lv_aload_n hx hb dX10_settles_7 rfl (lv_at hl 1 rfl) ?_
      refine gf_X10_13 C hW (by decide) rfl dX10_settles_8 ?_
      refine lv_iload_n hx hb dX10_settles_11 rfl (lv_at hl 0 rfl) ?_
      refine lv_aload_n hx hb dX10_settles_12 rfl (lv_at hl 1 rfl) ?_
      refine gf_X10_13 C hW (by decide) rfl dX10_settles_13 ?_
      refine lv_iconst (v := 5) hx hb dX10_settles_16 (by decide) ?_
      refine lv_iload_n hx hb dX10_settles_17 rfl (lv_at hl 0 rfl) ?_
      refine lv_iadd hx hb dX10_settles_18 ?_
      refine g_ald (v := (gcp 98 98 0 5 σ k) 98 (5 + k)) (5 + k) C hW (by decide) rfl (gadd (rfl : 5 = nI 5) (rfl : nI k = nI k)) (show (5 + k) < 10 by omega) (by decide) rfl dX10_settles_19 ?_
      refine g_ast k C hW (by decide) rfl rfl (show k < 10 by omega) (by decide) dX10_settles_20 (fun H locs hW => ?_)
      refine lv_iinc (v := nI (k + 1)) (lv' := [(1, .int (nI (k + 1))), (0, .ref (gAd G 96))]) hx hb dX10_settles_21 hl (k := 0) rfl (nI_1 _) (by decide) rfl (fun ls hl => ?_)
      refine lv_goto (tgt := 2) hx hb dX10_settles_24 (by decide) ?_
      exact ih2 (k + 1) _ _ _ (by omega)  (by simpa [gcp, Nat.zero_add] using hW) (lv_sub hl [0, 1] rfl)
  exact L2 5 0 _ _ _ (by omega)  hW (lv_sub hl [0, 1] rfl)
