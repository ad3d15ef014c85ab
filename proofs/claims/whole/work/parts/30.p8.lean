/-- what the class tries: all the notes are silenced -/
theorem kG_sil {σ ρ : gSt} {P N D w f u j hd t mi o : Nat} (h : Rel σ ρ P N D w f u j hd t) (hm2 : mi ≤ 240) {set : Int32} (hs : ∀ p, p < 32 → tb set p = true → p < N) (ho : kOfSet (σ 20) set D N = nI o) (c : Nat) : kAll (sNote σ set (nI o) D mi (240 - mi)).1 (fun r => kSil (σ 20) D set r (nI c)) (sNote σ set (nI o) D mi (240 - mi)).2 0 = true ↔ sil σ set D mi c := by
  obtain ⟨a, b⟩ := kNote_spec (X := sX σ (nI o) D) (F := fun r => kSil (σ 20) D set r 0) (nt0 := σ 82) (mi := mi) (240 - mi)
  have kc : ∀ m x, kSil (σ 20) D set (sX σ (nI o) D m) (nI x) = true ↔ ¬ cov σ set D m x := fun m x => by
    rw [sX, ← ho]; exact kSil_cov h hs m x
  rw [kAll_iff]
  constructor
  · intro z m h1 h2 hc
    rcases b m h1 (by omega) with q | ⟨k, hk, e⟩
    · have q' : kSil (σ 20) D set (sX σ (nI o) D m) (nI 0) = true := q
      rw [kc m 0] at q'
      refine q' (fun p hp e => ?_)
      obtain ⟨d, hd, x1, x2, x3⟩ := hc p hp e
      exact ⟨d, hd, x1, x2, Nat.zero_testBit d⟩
    · have := z k (Nat.zero_le _) (by rw [Nat.zero_add]; exact hk)
      rw [e] at this
      exact (kc m c).mp this hc
  · intro z k _ hk
    rw [Nat.zero_add] at hk
    obtain ⟨m, h1, h2, e⟩ := a k hk
    have : kSil (σ 20) D set (sX σ (nI o) D m) (nI c) = true := (kc m c).mpr (z m h1 (by omega))
    rw [← e] at this
    exact this
theorem kBest_spec {o : Nat} (ho : o < 256) {G : Nat → Bool} : ∀ c, c ≤ o → ∃ b, kBest o G c = nI b ∧ (b = o ∨ (b < c ∧ (∀ d, d < 8 → b.testBit d = true → o.testBit d = true) ∧ G b = true)) ∧ (∀ x, x < c → (∀ d, d < 8 → x.testBit d = true → o.testBit d = true) → G x = true → lexle b x) ∧ lexle b o
  | 0, _ => ⟨o, rfl, Or.inl rfl, fun x hx => by omega, Or.inr ⟨rfl, Nat.le_refl _⟩⟩
  | c + 1, hc => by
    obtain ⟨b, e, h1, h2, h3⟩ := kBest_spec ho (G := G) c (by omega)
    have hb : b < 256 := by rcases h1 with q | q <;> omega
    have cb := cnt_le b
    have cc := cnt_le c
    have sub : nI c &&& (nI o ^^^ -1) = 0 ↔ ∀ d, d < 8 → c.testBit d = true → o.testBit d = true := by
      rw [and0 (by omega)]
      constructor
      · intro z d hd hb
        have := z d hd hb
        rw [tb_not (by omega), tb_nI (by omega), Bool.not_eq_false'] at this; exact this
      · intro z d hd hb
        rw [tb_not (by omega), tb_nI (by omega), z d hd hb]; rfl
    have lt : (¬ kBC (nI b) ≤ kBC (nI c)) ↔ cnt c < cnt b := by
      rw [cnt_bc hb, cnt_bc (by omega), nI_leI (by omega) (by omega)]; omega
    rw [kBest, e]
    by_cases k : nI c &&& (nI o ^^^ -1) = 0 ∧ ¬ kBC (nI b) ≤ kBC (nI c) ∧ G c = true
    · rw [if_pos k]
      have k1 := sub.mp k.1
      have k2 := lt.mp k.2.1
      refine ⟨c, rfl, Or.inr ⟨by omega, k1, k.2.2⟩, fun x hx hs hg => ?_, ?_⟩
      · rcases Nat.lt_or_ge x c with q | q
        · rcases h2 x q hs hg with r | r
          · exact Or.inl (by omega)
          · exact Or.inl (by omega)
        · have : x = c := by omega
          subst this; exact Or.inr ⟨rfl, Nat.le_refl _⟩
      · rcases h3 with r | r
        · exact Or.inl (by omega)
        · exact Or.inl (by omega)
    · rw [if_neg k]
      refine ⟨b, rfl, ?_, fun x hx hs hg => ?_, h3⟩
      · rcases h1 with q | q
        · exact Or.inl q
        · exact Or.inr ⟨by omega, q.2⟩
      · rcases Nat.lt_or_ge x c with q | q
        · exact h2 x q hs hg
        · have : x = c := by omega
          subst this
          have nl : ¬ cnt x < cnt b := fun z => k ⟨sub.mpr hs, lt.mpr z, hg⟩
          rcases h1 with r | r
          · subst r
            have := cnt_sub (x := x) (y := b) (by omega) hb hs
            have : ¬ cnt x = cnt b := fun z => by have := this.2 z; omega
            omega
          · rcases Nat.lt_or_ge (cnt b) (cnt x) with z | z
            · exact Or.inl z
            · exact Or.inr ⟨by omega, by omega⟩
theorem rSil_spec {σ ρ : gSt} {P N D w f u j hd t mi : Nat} (h : Rel σ ρ P N D w f u j hd t) (hm2 : mi ≤ 240) {set wo0 : Int32} : ∀ k, k ≤ 2 ^ D → ((rSil (ρ 102) (ρ 103) (ρ 101) (ρ 104) (ρ 98 4) set wo0 D N mi k).1 = -9 ∧ ∀ x, x < k → nI x &&& ρ 104 16 = 0 → ¬ sil σ set D mi x) ∨ ∃ b, b < k ∧ (rSil (ρ 102) (ρ 103) (ρ 101) (ρ 104) (ρ 98 4) set wo0 D N mi k).1 = nI b ∧ nI b &&& ρ 104 16 = 0 ∧ sil σ set D mi b ∧ ∀ x, x < k → nI x &&& ρ 104 16 = 0 → sil σ set D mi x → lexle b x
  | 0, _ => Or.inl ⟨rfl, fun x hx => by omega⟩
  | k + 1, hk => by
    have hD := h.bd.2.2.2.1
    have h256 := two8 hD
    have ih := rSil_spec h hm2 (set := set) (wo0 := wo0) k (by omega)
    have none : rNone (fun m => decide (set &&& (rRings (ρ 102) (ρ 103) (ρ 101) (ρ 104) (ρ 98 4) (ρ 104 16 ||| nI k) (nI m) D N ^^^ -1) = 0)) (240 - mi) mi = true ↔ sil σ set D mi k := by
      rw [rNone_iff]
      constructor
      · intro z m h1 h2 hc
        have := z m h1 (by omega)
        rw [(mSil_cov h h2 k).mpr hc] at this
        exact absurd this (by decide)
      · intro z m h1 h2
        cases e : decide (set &&& (rRings (ρ 102) (ρ 103) (ρ 101) (ρ 104) (ρ 98 4) (ρ 104 16 ||| nI k) (nI m) D N ^^^ -1) = 0)
        · rfl
        · exact absurd ((mSil_cov h (by omega) k).mp e) (z m h1 (by omega))
    rw [rSil]
    generalize rSil (ρ 102) (ρ 103) (ρ 101) (ρ 104) (ρ 98 4) set wo0 D N mi k = S at ih ⊢
    by_cases c : nI k &&& ρ 104 16 = 0
    · rw [if_pos c]
      rcases ih with ⟨a, b⟩ | ⟨b, h1, h2, h3, h4, h5⟩
      · rw [if_pos (Or.inl a)]
        by_cases s : sil σ set D mi k
        · simp only [if_pos (none.mpr s)]
          refine Or.inr ⟨k, by omega, rfl, c, s, fun x hx h1 h2 => ?_⟩
          rcases Nat.lt_or_ge x k with q | q
          · exact absurd h2 (b x q h1)
          · have : x = k := by omega
            subst this; exact Or.inr ⟨rfl, Nat.le_refl _⟩
        · simp only [if_neg (fun z => s (none.mp z))]
          refine Or.inl ⟨a, fun x hx h1 => ?_⟩
          rcases Nat.lt_or_ge x k with q | q
          · exact b x q h1
          · have : x = k := by omega
            subst this; exact s
      · have cb := cnt_le b
        have cc := cnt_le k
        have lt : (S.1 = -9 ∨ ¬ mOnes S.1 8 ≤ mOnes (nI k) 8) ↔ cnt k < cnt b := by
          rw [h2, cnt_ones b (by omega), cnt_ones k (by omega), nI_leI (by omega) (by omega)]
          constructor
          · rintro (z | z)
            · exact absurd z (nI_m9 (by omega))
            · omega
          · intro z; exact Or.inr (by omega)
        have keep : ¬ (cnt k < cnt b ∧ sil σ set D mi k) → ∀ x, x < k + 1 → nI x &&& ρ 104 16 = 0 → sil σ set D mi x → lexle b x := by
          intro z x hx r1 r2
          rcases Nat.lt_or_ge x k with q | q
          · exact h5 x q r1 r2
          · have : x = k := by omega
            subst this
            rcases Nat.lt_or_ge (cnt b) (cnt x) with y | y
            · exact Or.inl y
            · rcases Nat.lt_or_ge (cnt x) (cnt b) with v | v
              · exact absurd ⟨v, r2⟩ z
              · exact Or.inr ⟨by omega, by omega⟩
        by_cases e : cnt k < cnt b
        · rw [if_pos (lt.mpr e)]
          by_cases s : sil σ set D mi k
          · simp only [if_pos (none.mpr s)]
            refine Or.inr ⟨k, by omega, rfl, c, s, fun x hx r1 r2 => ?_⟩
            rcases Nat.lt_or_ge x k with q | q
            · rcases h5 x q r1 r2 with y | y
              · exact Or.inl (by omega)
              · exact Or.inl (by omega)
            · have : x = k := by omega
              subst this; exact Or.inr ⟨rfl, Nat.le_refl _⟩
          · simp only [if_neg (fun z => s (none.mp z))]
            exact Or.inr ⟨b, by omega, h2, h3, h4, keep (fun z => s z.2)⟩
        · rw [if_neg (fun z => e (lt.mp z))]
          exact Or.inr ⟨b, by omega, h2, h3, h4, keep (fun z => e z.1)⟩
    · rw [if_neg c]
      rcases ih with ⟨a, b⟩ | ⟨b, h1, h2, h3, h4, h5⟩
      · refine Or.inl ⟨a, fun x hx h1 => ?_⟩
        rcases Nat.lt_or_ge x k with q | q
        · exact b x q h1
        · have : x = k := by omega
          subst this; exact absurd h1 c
      · refine Or.inr ⟨b, by omega, h2, h3, h4, fun x hx r1 r2 => ?_⟩
        rcases Nat.lt_or_ge x k with q | q
        · exact h5 x q r1 r2
        · have : x = k := by omega
          subst this; exact absurd r1 c
theorem set_low {N : Nat} (hN : N ≤ 5) {set : Int32} (c : mIn set 0 (nI (2 ^ N) - 1) = true) : ∃ s, s < 2 ^ N ∧ set = nI s := by
  have h := two8 (D := N) (by omega)
  have := mIn_nat c (by omega)
  exact ⟨_, this.2, this.1⟩
theorem Rel.ofs {σ ρ : gSt} {P N D w f u j hd t : Nat} (h : Rel σ ρ P N D w f u j hd t) (set : Int32) : ∃ o, o < 2 ^ D ∧ kOfSet (σ 20) set D N = nI o := by
  have hD := h.bd.2.2.2.1
  have hN := h.bd.2.2.1
  refine nat_of_low hD (fun k hk z => ?_)
  obtain ⟨p, _, _, a, _⟩ := (tb_kOfSet (by omega) N (by omega)).mp z
  exact a
theorem sil_sub {σ ρ : gSt} {P N D w f u j hd t mi x y : Nat} (h : Rel σ ρ P N D w f u j hd t) {set : Int32} (e : ∀ m d p, m < 240 → d < D → p < 32 → tb set p = true → σ 20 d = nI p → tb (sDR σ (nI m) D) d = true → x.testBit d = false → y.testBit d = false) (hy : sil σ set D mi y) : sil σ set D mi x := by
  intro m h1 h2 hc
  refine hy m h1 h2 (fun p hp hs => ?_)
  obtain ⟨d, hd, a, b, c⟩ := hc p hp hs
  exact ⟨d, hd, a, b, e m d p h2 hd hp hs a b c⟩
theorem p_silence {σ ρ : gSt} {P N D w f u j hd t mi o : Nat} (h : Rel σ ρ P N D w f u j hd t) (hmi : ρ 104 15 = nI mi) (hm2 : mi ≤ 240) (a0 : Int32) (ho2 : o < 2 ^ D) (ho : kOfSet (σ 20) a0 D N = nI o) : kA_silence σ a0 D N mi o = mA_silence ρ a0 D N mi ∧ RelE (kS_silence σ a0 D N mi o) (mS_silence ρ a0 D N mi) := by
  have hD := h.bd.2.2.2.1
  have hN := h.bd.2.2.1
  have h256 := two8 hD
  constructor
  · simp only [kA_silence, mA_silence, h.gs]
    have cm : (¬ a0 = 0 ∧ mIn a0 0 ((1 <<< (ρ 98 1 &&& 31)) - 1) = true) = (mIn a0 0 ((1 <<< (ρ 98 1 &&& 31)) - 1) = true ∧ ¬ a0 = 0) := propext And.comm
    simp only [cm]
    by_cases c : mIn a0 0 ((1 <<< (ρ 98 1 &&& 31)) - 1) = true ∧ ¬ a0 = 0
    · rw [if_pos c, if_pos c]
      have c1 := c.1
      rw [h.pl.2.2.1.2.1, sh1 N (by omega)] at c1
      obtain ⟨s, hs1, hs2⟩ := set_low hN c1
      have hs : ∀ p, p < 32 → tb a0 p = true → p < N := fun p hp z => nat_tb hs1 hp (hs2 ▸ z)
      have hof : ∀ d p, d < D → p < 32 → tb a0 p = true → σ 20 d = nI p → o.testBit d = true := by
        intro d p hd hp z e
        rw [← tb_nI (n := o) (k := d) (by omega), ← ho]
        exact (tb_kOfSet (by omega) N (by omega)).mpr ⟨p, hs p hp z, z, hd, e⟩
      -- all duties of the set silence it
      have so : sil σ a0 D mi o := by
        intro m h1 h2 hc
        obtain ⟨p, hp, z⟩ := tb_ne0.mp c.2
        obtain ⟨d, hd, a, b, e⟩ := hc p hp z
        rw [hof d p hd hp z a] at e
        exact absurd e (by decide)
      have kG := fun c => kG_sil h hm2 hs ho c
      obtain ⟨b, e1, e2, e3, e4⟩ := kBest_spec (o := o) (by omega) (G := fun c => kAll (sNote σ a0 (nI o) D mi (240 - mi)).1 (fun r => kSil (σ 20) D a0 r (nI c)) (sNote σ a0 (nI o) D mi (240 - mi)).2 0) o (Nat.le_refl _)
      rw [e1]
      have sb : sil σ a0 D mi b := by
        rcases e2 with q | q
        · rw [q]; exact so
        · exact (kG b).mp q.2.2
      have bo : b ≤ o := by rcases e2 with q | q <;> omega
      -- the class's is the least of all
      have leB : ∀ x, x < 2 ^ D → sil σ a0 D mi x → lexle b x := by
        intro x hx hsx
        have hx' : x &&& o ≤ o := Nat.and_le_right
        have s1 : sil σ a0 D mi (x &&& o) := by
          refine sil_sub h (fun m d p _ hd hp hz a _ e => ?_) hsx
          rw [Nat.testBit_and, hof d p hd hp hz a, Bool.and_true] at e
          exact e
        have sub1 : ∀ d, d < 8 → (x &&& o).testBit d = true → o.testBit d = true := by
          intro d _ z; rw [Nat.testBit_and, Bool.and_eq_true] at z; exact z.2
        have sub2 : ∀ d, d < 8 → (x &&& o).testBit d = true → x.testBit d = true := by
          intro d _ z; rw [Nat.testBit_and, Bool.and_eq_true] at z; exact z.1
        have l1 : lexle b (x &&& o) := by
          rcases Nat.lt_or_ge (x &&& o) o with q | q
          · exact e3 _ q sub1 ((kG _).mpr s1)
          · rw [show x &&& o = o by omega]; exact e4
        have cs := cnt_sub (x := x &&& o) (y := x) (by omega) (by omega) sub2
        rcases Nat.lt_or_ge (cnt (x &&& o)) (cnt x) with q | q
        · rcases l1 with r | r
          · exact Or.inl (by omega)
          · exact Or.inl (by omega)
        · rw [cs.2 (by omega)] at l1; exact l1
      obtain ⟨ex, hex, eex⟩ := h.mo.2.2.1
      -- taking away what is excused
      have less : ∀ x, x < 2 ^ D → sil σ a0 D mi x → ∃ y, y < 2 ^ D ∧ nI y &&& ρ 104 16 = 0 ∧ sil σ a0 D mi y ∧ lexle y x := by
        intro x hx hsx
        have t255 : ∀ d, d < 8 → (255 : Nat).testBit d = true := by decide
        have bit : ∀ d, d < 8 → (x &&& (255 ^^^ ex)).testBit d = (x.testBit d && !ex.testBit d) := by
          intro d hd
          rw [Nat.testBit_and, Nat.testBit_xor, t255 d hd]; simp
        have hy : x &&& (255 ^^^ ex) ≤ x := Nat.and_le_left
        refine ⟨x &&& (255 ^^^ ex), by omega, ?_, ?_, ?_⟩
        · rw [and0 (by omega), eex]
          intro d hd z
          rw [bit d hd, Bool.and_eq_true, Bool.not_eq_true'] at z
          rw [tb_nI (by omega)]; exact z.2
        · refine sil_sub h (fun m d p hm hd hp hz a r e => ?_) hsx
          rw [bit d (by omega)] at e
          obtain ⟨_, q, _⟩ := (tb_sDR h hm d).mp r
          rw [eex, tb_nI (by omega)] at q
          rw [q] at e
          simpa using e
        · have cs := cnt_sub (x := x &&& (255 ^^^ ex)) (y := x) (by omega) (by omega) (fun d hd z => by
            rw [bit d hd, Bool.and_eq_true] at z; exact z.1)
          rcases Nat.lt_or_ge (cnt (x &&& (255 ^^^ ex))) (cnt x) with q | q
          · exact Or.inl q
          · exact Or.inr ⟨by omega, hy⟩
      rcases rSil_spec h hm2 (set := a0) (wo0 := ρ 96 25) (2 ^ D) (Nat.le_refl _) with ⟨a, z⟩ | ⟨r, h1, h2, h3, h4, h5⟩
      · obtain ⟨y, y1, y2, y3, _⟩ := less o ho2 so
        exact absurd y3 (z y y1 y2)
      · rw [show (mSil ρ a0 D N mi (2 ^ D)).1 = nI r from h2]
        have l1 := leB r h1 h4
        obtain ⟨y, y1, y2, y3, y4⟩ := less b (by omega) sb
        have l2 := h5 y y1 y2 y3
        congr 1
        simp only [lexle] at l1 l2 y4
        omega
    · rw [if_neg c, if_neg c]
  · have hk : ∀ c, c ≠ 81 → c ≠ 82 → kS_silence σ a0 D N mi o c = σ c := by
      intro c h1 h2
      rw [kS_silence]
      split
      · rw [sNoteS, gu_ne h1, va_up_ne _ _ h2]
      · rfl
    have r1 : Rel (kS_silence σ a0 D N mi o) ρ P N D w f u j hd t := ⟨rPlan_cg h.pl (fun c _ _ => hk c (by omega) (by omega)) (fun _ _ _ => rfl), mRel_cg h.mo (fun c _ _ => hk c (by omega) (by omega)) (fun _ _ => rfl) hN hD, rUndo_cg h.un hN hD (fun c _ _ => hk c (by omega) (by omega)) rfl rfl, rImg_cg h.im hN hD (fun c _ _ => hk c (by omega) (by omega)) rfl rfl, rHeard_cg h.he (fun c _ _ => hk c (by omega) (by omega)) (fun _ _ _ => rfl) rfl, rText_cg h.tx (by rw [hk 1 (by omega) (by omega)]) (hk 2 (by omega) (by omega)) rfl rfl, rZero_cg h.ze (hk 79 (by omega) (by omega)) (hk 80 (by omega) (by omega))⟩
    rw [mS_silence]
    split
    · exact RelE_of (Rel_25 r1)
    · exact RelE_of r1
