/-! ===== a step of the law: both calls answer the same, and the two worlds stay alike ===== -/
theorem clamp_nI {x : Int32} {n : Nat} (h : x = nI n) (hn : n < 2 ^ 31) : x = nI x.toNatClampNeg ∧ x.toNatClampNeg = n := by
  subst h; rw [nI_clamp hn]; exact ⟨rfl, rfl⟩
section REL
variable {σ ρ : gSt} {P N D w f u j hd t : Nat}
theorem Rel.how (h : Rel σ ρ P N D w f u j hd t) : ∀ d, d < D → σ 20 d = nI (σ 20 d).toNatClampNeg ∧ (σ 20 d).toNatClampNeg < 5 := by
  intro d hd
  obtain ⟨x, hx, e⟩ := h.mo.2.2.2.2 d hd
  have hN := h.bd.2.2.1
  have e2 : σ 20 d = nI x := (h.mo.1.2.2.2 d hd).trans e
  obtain ⟨a, b⟩ := clamp_nI e2 (by omega)
  exact ⟨a, by omega⟩
theorem Rel.howm (h : Rel σ ρ P N D w f u j hd t) : ∀ d, d < D → ∃ w, w < 5 ∧ ρ 104 (17 + d) = nI w := by
  intro d hd
  obtain ⟨x, hx, e⟩ := h.mo.2.2.2.2 d hd
  have hN := h.bd.2.2.1
  exact ⟨x, by omega, e⟩
theorem Rel.hplm (h : Rel σ ρ P N D w f u j hd t) (a0 : Int32) : mIn a0 0 (ρ 98 1 - 1) = true → ρ 104 a0.toNatClampNeg = nI (ρ 104 a0.toNatClampNeg).toNatClampNeg ∧ (ρ 104 a0.toNatClampNeg).toNatClampNeg < 6 ∧ ρ 104 (5 + a0.toNatClampNeg) = nI (ρ 104 (5 + a0.toNatClampNeg)).toNatClampNeg ∧ (ρ 104 (5 + a0.toNatClampNeg)).toNatClampNeg ≤ 1000 := by
  intro c
  obtain ⟨p, hp, -, e⟩ := h.per c
  rw [e]
  obtain ⟨⟨a, ha, ea⟩, ⟨g, hg, eg⟩⟩ := h.mo.2.2.2.1 p hp
  have hP := h.bd.2.1
  obtain ⟨x1, x2⟩ := clamp_nI ea (by omega)
  obtain ⟨y1, y2⟩ := clamp_nI eg (by omega)
  exact ⟨x1, by omega, y1, by omega⟩
theorem Rel.hplk (h : Rel σ ρ P N D w f u j hd t) (a0 : Int32) : kIs a0 (σ 10 1) = true → σ 17 a0.toNatClampNeg = nI (σ 17 a0.toNatClampNeg).toNatClampNeg ∧ (σ 17 a0.toNatClampNeg).toNatClampNeg < 6 ∧ σ 18 a0.toNatClampNeg = nI (σ 18 a0.toNatClampNeg).toNatClampNeg ∧ (σ 18 a0.toNatClampNeg).toNatClampNeg ≤ 1000 := by
  intro c
  rw [h.gp] at c
  have q := h.hplm a0 c
  obtain ⟨p, hp, -, e⟩ := h.per c
  rw [e] at q ⊢
  obtain ⟨k1, k2, -⟩ := h.mo.1.2.2.1 p hp
  rw [show σ 17 p = ρ 104 p from k1, show σ 18 p = ρ 104 (5 + p) from k2]
  exact q
theorem Rel.hexm {mi : Nat} {a0 : Int32} (h : Rel σ ρ P N D w f u j hd t) (c : mIn a0 0 (ρ 98 1 - 1) = true) (hmi : mi < 240) : ∃ t2, t2 < P ∧ (fun t => mCost ρ (ρ 104 16) a0 (mMeas ρ (ρ 104 16) a0 D w P (240 - mi)) D w mi (ρ 104 a0.toNatClampNeg).toNatClampNeg t) t2 = ((mMeas ρ (ρ 104 16) a0 D w P (240 - mi)) (6 * mi + (ρ 104 a0.toNatClampNeg).toNatClampNeg)) := by
  obtain ⟨p, hp, -, e⟩ := h.per c
  obtain ⟨⟨a, ha, ea⟩, -⟩ := h.mo.2.2.2.1 p hp
  have hP := h.bd.2.1
  rw [e]
  obtain ⟨x1, x2⟩ := clamp_nI ea (by omega)
  rw [x2]
  exact least_ex (p := p) h hmi a0 ha
end REL
/-- what stands between two calls of the law -/
def gInv (σ : gSt) (τ : Nat → Int64) : Prop := RelE σ σ ∧ τ 83 = τ 96
theorem s_type (l : Launch) (G : gG) {σ : gSt} {τ : Nat → Int64} (h : gInv σ τ) (a0 : Int32) : ∃ r σ1 τ1 σ2 τ2, gI l yX9_type cX9_type 2 (some .int) 1 21 G [.ref (gAd G 0), .int a0] σ τ r σ1 τ1 ∧ gI l yX10_type cX10_type 2 (some .int) 1 22 G [.ref (gAd G 96), .int a0] σ1 τ1 r σ2 τ2 ∧ gInv σ2 τ2 := by
  obtain ⟨⟨P, N, D, w, f, u, j, hd, t, h⟩, ht⟩ := h
  have h' : Rel σ (kS_type σ a0 t) P N D w f u j hd t := Rel_cg h (fun _ _ => rfl) (fun c hc => fk_type hc)
  have q := p_type h' a0
  refine ⟨kA_type σ a0 t, kS_type σ a0 t, τ, mS_type (kS_type σ a0 t) a0 t, τ, k_type l G σ τ a0 t h'.tx.2.1 h'.tx.1, ?_, RelE_cg q.2 (fun c hc => fm_type hc) (fun _ _ => rfl), ht⟩
  rw [q.1]
  exact m_type l G _ τ a0 t h'.tx.2.2.1 h'.tx.1
theorem s_clear (l : Launch) (G : gG) {σ : gSt} {τ : Nat → Int64} (h : gInv σ τ) : ∃ r σ1 τ1 σ2 τ2, gI l yX9_clear cX9_clear 1 (some .int) 1 21 G [.ref (gAd G 0)] σ τ r σ1 τ1 ∧ gI l yX10_clear cX10_clear 2 (some .int) 0 0 G [.ref (gAd G 96)] σ1 τ1 r σ2 τ2 ∧ gInv σ2 τ2 := by
  obtain ⟨⟨P, N, D, w, f, u, j, hd, t, h⟩, ht⟩ := h
  have h' : Rel σ (kS_clear σ ) P N D w f u j hd t := Rel_cg h (fun _ _ => rfl) (fun c hc => fk_clear hc)
  have q := p_clear h'
  refine ⟨kA_clear σ , kS_clear σ , τ, mS_clear (kS_clear σ ) , τ, k_clear l G σ τ , ?_, RelE_cg q.2 (fun c hc => fm_clear hc) (fun _ _ => rfl), ht⟩
  rw [q.1]
  exact m_clear l G _ τ 
theorem s_town (l : Launch) (G : gG) {σ : gSt} {τ : Nat → Int64} (h : gInv σ τ) : ∃ r σ1 τ1 σ2 τ2, gI l yX9_town cX9_town 3 (some .int) 6 131 G [.ref (gAd G 0)] σ τ r σ1 τ1 ∧ gI l yX10_town cX10_town 3 (some .int) 5 110 G [.ref (gAd G 96)] σ1 τ1 r σ2 τ2 ∧ gInv σ2 τ2 := by
  obtain ⟨⟨P, N, D, w, f, u, j, hd, t, h⟩, ht⟩ := h
  have h' : Rel σ (kS_town σ t) P N D w f u j hd t := Rel_cg h (fun _ _ => rfl) (fun c hc => fk_town hc)
  have q := p_town h'
  refine ⟨kA_town σ t, kS_town σ t, τ, mS_town (kS_town σ t) t, τ, k_town l G σ τ t h'.tx.2.1 h'.tx.1, ?_, RelE_cg q.2 (fun c hc => fm_town hc) (fun _ _ => rfl), ht⟩
  rw [q.1]
  exact m_town l G _ τ t h'.tx.2.2.1 h'.tx.1
theorem s_person (l : Launch) (G : gG) {σ : gSt} {τ : Nat → Int64} (h : gInv σ τ) (a0 a1 : Int32) : ∃ r σ1 τ1 σ2 τ2, gI l yX9_person cX9_person 4 (some .int) 4 87 G [.ref (gAd G 0), .int a0, .int a1] σ τ r σ1 τ1 ∧ gI l yX10_person cX10_person 3 (some .int) 2 43 G [.ref (gAd G 96), .int a0, .int a1] σ1 τ1 r σ2 τ2 ∧ gInv σ2 τ2 := by
  obtain ⟨⟨P, N, D, w, f, u, j, hd, t, h⟩, ht⟩ := h
  have h' : Rel σ (kS_person σ a0 a1 D N) P N D w f u j hd t := Rel_cg h (fun _ _ => rfl) (fun c hc => fk_person hc)
  have q := p_person h' a0 a1
  refine ⟨kA_person σ a0 a1 D N, kS_person σ a0 a1 D N, τ, mS_person (kS_person σ a0 a1 D N) a0 a1 D N, τ, k_person l G σ τ a0 a1 D h'.pl.2.1.2.2.1 h'.bd.2.2.2.1 N h'.pl.2.1.2.1 h'.bd.2.2.1 h'.how, ?_, RelE_cg q.2 (fun c hc => fm_person hc) (fun _ _ => rfl), ht⟩
  rw [q.1]
  exact m_person l G _ τ a0 a1 D h'.pl.2.2.1.2.2.1 h'.bd.2.2.2.1 N h'.pl.2.2.1.2.1 h'.bd.2.2.1
theorem s_duty (l : Launch) (G : gG) {σ : gSt} {τ : Nat → Int64} (h : gInv σ τ) (a0 a1 : Int32) : ∃ r σ1 τ1 σ2 τ2, gI l yX9_duty cX9_duty 3 (some .int) 1 21 G [.ref (gAd G 0), .int a0, .int a1] σ τ r σ1 τ1 ∧ gI l yX10_duty cX10_duty 3 (some .int) 2 43 G [.ref (gAd G 96), .int a0, .int a1] σ1 τ1 r σ2 τ2 ∧ gInv σ2 τ2 := by
  obtain ⟨⟨P, N, D, w, f, u, j, hd, t, h⟩, ht⟩ := h
  have h' : Rel σ (kS_duty σ a0 a1 D) P N D w f u j hd t := Rel_cg h (fun _ _ => rfl) (fun c hc => fk_duty hc)
  have q := p_duty h' a0 a1
  refine ⟨kA_duty σ a0 a1 D, kS_duty σ a0 a1 D, τ, mS_duty (kS_duty σ a0 a1 D) a0 a1 D, τ, k_duty l G σ τ a0 a1 D h'.pl.2.1.2.2.1 h'.bd.2.2.2.1, ?_, RelE_cg q.2 (fun c hc => fm_duty hc) (fun _ _ => rfl), ht⟩
  rw [q.1]
  exact m_duty l G _ τ a0 a1 D h'.pl.2.2.1.2.2.1 h'.bd.2.2.2.1
theorem s_now (l : Launch) (G : gG) {σ : gSt} {τ : Nat → Int64} (h : gInv σ τ) (a0 : Int32) : ∃ r σ1 τ1 σ2 τ2, gI l yX9_now cX9_now 2 (some .int) 4 87 G [.ref (gAd G 0), .int a0] σ τ r σ1 τ1 ∧ gI l yX10_now cX10_now 4 (some .int) 3 70 G [.ref (gAd G 96), .int a0] σ1 τ1 r σ2 τ2 ∧ gInv σ2 τ2 := by
  obtain ⟨⟨P, N, D, w, f, u, j, hd, t, h⟩, ht⟩ := h
  obtain ⟨mi, hm2, hmi0⟩ := h.mo.2.1
  have h' : Rel σ (kS_now σ a0 D N mi) P N D w f u j hd t := Rel_cg h (fun _ _ => rfl) (fun c hc => fk_now hc)
  have hmi : (kS_now σ a0 D N mi) 104 15 = nI mi := (congrFun (fk_now (by omega)) 15).trans hmi0
  have q := p_now h' hmi hm2 a0
  refine ⟨kA_now σ a0 D N mi, kS_now σ a0 D N mi, τ, mS_now (kS_now σ a0 D N mi) a0 u D N mi, τ, k_now l G σ τ a0 D h'.pl.2.1.2.2.1 h'.bd.2.2.2.1 N h'.pl.2.1.2.1 h'.bd.2.2.1 mi (h'.mo.1.1.trans hmi) hm2 h'.how, ?_, RelE_cg q.2 (fun c hc => fm_now hc) (fun _ _ => rfl), ht⟩
  rw [q.1]
  exact m_now l G _ τ a0 u h'.un.2.2.2.2.1 D h'.pl.2.2.1.2.2.1 h'.bd.2.2.2.1 N h'.pl.2.2.1.2.1 h'.bd.2.2.1 mi hmi hm2
theorem s_goes (l : Launch) (G : gG) {σ : gSt} {τ : Nat → Int64} (h : gInv σ τ) (a0 a1 : Int32) : ∃ r σ1 τ1 σ2 τ2, gI l yX9_goes cX9_goes 4 (some .int) 3 82 G [.ref (gAd G 0), .int a0, .int a1] σ τ r σ1 τ1 ∧ gI l yX10_goes cX10_goes 3 (some .int) 2 43 G [.ref (gAd G 96), .int a0, .int a1] σ1 τ1 r σ2 τ2 ∧ gInv σ2 τ2 := by
  obtain ⟨⟨P, N, D, w, f, u, j, hd, t, h⟩, ht⟩ := h
  have h' : Rel σ (kS_goes σ a0 a1 N j u) P N D w f u j hd t := Rel_cg h (fun _ _ => rfl) (fun c hc => fk_goes h.un.2.1 hc)
  have q := p_goes h' a0 a1
  refine ⟨kA_goes σ a0 a1 N j u, kS_goes σ a0 a1 N j u, τ, mS_goes (kS_goes σ a0 a1 N j u) a0 a1 N u, τ, k_goes l G σ τ a0 a1 N h'.pl.2.1.2.1 h'.bd.2.2.1 j u h'.un.2.2.2.1 h'.un.2.1 h'.un.2.2.1 h'.un.1, ?_, RelE_cg q.2 (fun c hc => fm_goes hc) (fun _ _ => rfl), ht⟩
  rw [q.1]
  exact m_goes l G _ τ a0 a1 N h'.pl.2.2.1.2.1 h'.bd.2.2.1 u h'.un.2.2.2.2.1 h'.un.1
theorem s_passes (l : Launch) (G : gG) {σ : gSt} {τ : Nat → Int64} (h : gInv σ τ) (a0 : Int32) : ∃ r σ1 τ1 σ2 τ2, gI l yX9_passes cX9_passes 4 (some .int) 5 109 G [.ref (gAd G 0), .int a0] σ τ r σ1 τ1 ∧ gI l yX10_passes cX10_passes 6 (some .int) 2 49 G [.ref (gAd G 96), .int a0] σ1 τ1 r σ2 τ2 ∧ gInv σ2 τ2 := by
  obtain ⟨⟨P, N, D, w, f, u, j, hd, t, h⟩, ht⟩ := h
  have h' : Rel σ (kS_passes σ a0 D N j u) P N D w f u j hd t := Rel_cg h (fun _ _ => rfl) (fun c hc => fk_passes h.un.2.1 hc)
  have q := p_passes h' a0
  refine ⟨kA_passes σ a0 D N j u, kS_passes σ a0 D N j u, τ, mS_passes (kS_passes σ a0 D N j u) a0 D N u, τ, k_passes l G σ τ a0 D h'.pl.2.1.2.2.1 h'.bd.2.2.2.1 N h'.pl.2.1.2.1 h'.bd.2.2.1 h'.how j u h'.un.2.2.2.1 h'.un.2.1 h'.un.2.2.1 h'.un.1, ?_, RelE_cg q.2 (fun c hc => fm_passes hc) (fun _ _ => rfl), ht⟩
  rw [q.1]
  exact m_passes l G _ τ a0 D h'.pl.2.2.1.2.2.1 h'.bd.2.2.2.1 N h'.pl.2.2.1.2.1 h'.bd.2.2.1 u h'.un.2.2.2.2.1 h'.un.1
theorem s_excuses (l : Launch) (G : gG) {σ : gSt} {τ : Nat → Int64} (h : gInv σ τ) (a0 a1 : Int32) : ∃ r σ1 τ1 σ2 τ2, gI l yX9_excuses cX9_excuses 4 (some .int) 3 82 G [.ref (gAd G 0), .int a0, .int a1] σ τ r σ1 τ1 ∧ gI l yX10_excuses cX10_excuses 3 (some .int) 2 43 G [.ref (gAd G 96), .int a0, .int a1] σ1 τ1 r σ2 τ2 ∧ gInv σ2 τ2 := by
  obtain ⟨⟨P, N, D, w, f, u, j, hd, t, h⟩, ht⟩ := h
  have h' : Rel σ (kS_excuses σ a0 a1 D j u) P N D w f u j hd t := Rel_cg h (fun _ _ => rfl) (fun c hc => fk_excuses h.un.2.1 hc)
  have q := p_excuses h' a0 a1
  refine ⟨kA_excuses σ a0 a1 D j u, kS_excuses σ a0 a1 D j u, τ, mS_excuses (kS_excuses σ a0 a1 D j u) a0 a1 D u, τ, k_excuses l G σ τ a0 a1 D h'.pl.2.1.2.2.1 h'.bd.2.2.2.1 j u h'.un.2.2.2.1 h'.un.2.1 h'.un.2.2.1 h'.un.1, ?_, RelE_cg q.2 (fun c hc => fm_excuses hc) (fun _ _ => rfl), ht⟩
  rw [q.1]
  exact m_excuses l G _ τ a0 a1 D h'.pl.2.2.1.2.2.1 h'.bd.2.2.2.1 u h'.un.2.2.2.2.1 h'.un.1
theorem s_swaps (l : Launch) (G : gG) {σ : gSt} {τ : Nat → Int64} (h : gInv σ τ) (a0 a1 : Int32) : ∃ r σ1 τ1 σ2 τ2, gI l yX9_swaps cX9_swaps 5 (some .int) 3 82 G [.ref (gAd G 0), .int a0, .int a1] σ τ r σ1 τ1 ∧ gI l yX10_swaps cX10_swaps 4 (some .int) 2 43 G [.ref (gAd G 96), .int a0, .int a1] σ1 τ1 r σ2 τ2 ∧ gInv σ2 τ2 := by
  obtain ⟨⟨P, N, D, w, f, u, j, hd, t, h⟩, ht⟩ := h
  have h' : Rel σ (kS_swaps σ a0 a1 D j u) P N D w f u j hd t := Rel_cg h (fun _ _ => rfl) (fun c hc => fk_swaps h.un.2.1 hc)
  have q := p_swaps h' a0 a1
  refine ⟨kA_swaps σ a0 a1 D j u, kS_swaps σ a0 a1 D j u, τ, mS_swaps (kS_swaps σ a0 a1 D j u) a0 a1 D u, τ, k_swaps l G σ τ a0 a1 D h'.pl.2.1.2.2.1 h'.bd.2.2.2.1 j u h'.un.2.2.2.1 h'.un.2.1 h'.un.2.2.1 h'.un.1, ?_, RelE_cg q.2 (fun c hc => fm_swaps hc) (fun _ _ => rfl), ht⟩
  rw [q.1]
  exact m_swaps l G _ τ a0 a1 D h'.pl.2.2.1.2.2.1 h'.bd.2.2.2.1 u h'.un.2.2.2.2.1 h'.un.1
theorem s_undo (l : Launch) (G : gG) {σ : gSt} {τ : Nat → Int64} (h : gInv σ τ) : ∃ r σ1 τ1 σ2 τ2, gI l yX9_undo cX9_undo 1 (some .int) 3 82 G [.ref (gAd G 0)] σ τ r σ1 τ1 ∧ gI l yX10_undo cX10_undo 2 (some .int) 0 0 G [.ref (gAd G 96)] σ1 τ1 r σ2 τ2 ∧ gInv σ2 τ2 := by
  obtain ⟨⟨P, N, D, w, f, u, j, hd, t, h⟩, ht⟩ := h
  have h' : Rel σ (kS_undo σ j u) P N D w f u j hd t := Rel_cg h (fun _ _ => rfl) (fun c hc => fk_undo hc)
  have q := p_undo h'
  refine ⟨kA_undo σ j u, kS_undo σ j u, τ, mS_undo (kS_undo σ j u) u, τ, k_undo l G σ τ j u h'.un.2.2.2.1 h'.un.2.1 h'.un.2.2.1 h'.un.1, ?_, RelE_cg q.2 (fun c hc => fm_undo hc) (fun _ _ => rfl), ht⟩
  rw [q.1]
  exact m_undo l G _ τ u h'.un.2.2.2.2.1 h'.un.1
theorem s_rings (l : Launch) (G : gG) {σ : gSt} {τ : Nat → Int64} (h : gInv σ τ) (a0 : Int32) : ∃ r σ1 τ1 σ2 τ2, gI l yX9_rings cX9_rings 2 (some .int) 4 87 G [.ref (gAd G 0), .int a0] σ τ r σ1 τ1 ∧ gI l yX10_rings cX10_rings 2 (some .int) 2 49 G [.ref (gAd G 96), .int a0] σ1 τ1 r σ2 τ2 ∧ gInv σ2 τ2 := by
  obtain ⟨⟨P, N, D, w, f, u, j, hd, t, h⟩, ht⟩ := h
  have h' : Rel σ (kS_rings σ a0 D) P N D w f u j hd t := Rel_cg h (fun _ _ => rfl) (fun c hc => fk_rings hc)
  have q := p_rings h' a0
  refine ⟨kA_rings σ a0 D, kS_rings σ a0 D, τ, mS_rings (kS_rings σ a0 D) a0 D N, τ, k_rings l G σ τ a0 D h'.pl.2.1.2.2.1 h'.bd.2.2.2.1 h'.how, ?_, RelE_cg q.2 (fun c hc => fm_rings hc) (fun _ _ => rfl), ht⟩
  rw [q.1]
  exact m_rings l G _ τ a0 D h'.pl.2.2.1.2.2.1 h'.bd.2.2.2.1 N h'.pl.2.2.1.2.1 h'.bd.2.2.1
theorem s_chord (l : Launch) (G : gG) {σ : gSt} {τ : Nat → Int64} (h : gInv σ τ) (a0 a1 : Int32) : ∃ r σ1 τ1 σ2 τ2, gI l yX9_chord cX9_chord 3 (some .int) 5 110 G [.ref (gAd G 0), .int a0, .int a1] σ τ r σ1 τ1 ∧ gI l yX10_chord cX10_chord 6 (some .int) 2 49 G [.ref (gAd G 96), .int a0, .int a1] σ1 τ1 r σ2 τ2 ∧ gInv σ2 τ2 := by
  obtain ⟨⟨P, N, D, w, f, u, j, hd, t, h⟩, ht⟩ := h
  obtain ⟨mi, hm2, hmi0⟩ := h.mo.2.1
  have h' : Rel σ (kS_chord σ a0 a1 D mi) P N D w f u j hd t := Rel_cg h (fun _ _ => rfl) (fun c hc => fk_chord hc)
  have hmi : (kS_chord σ a0 a1 D mi) 104 15 = nI mi := (congrFun (fk_chord (by omega)) 15).trans hmi0
  have q := p_chord h' hmi hm2 a0 a1
  refine ⟨kA_chord σ a0 a1 D mi, kS_chord σ a0 a1 D mi, τ, mS_chord (kS_chord σ a0 a1 D mi) a0 a1 D N mi, τ, k_chord l G σ τ a0 a1 D h'.pl.2.1.2.2.1 h'.bd.2.2.2.1 mi (h'.mo.1.1.trans hmi) hm2 h'.how, ?_, RelE_cg q.2 (fun c hc => fm_chord hc) (fun _ _ => rfl), ht⟩
  rw [q.1]
  exact m_chord l G _ τ a0 a1 D h'.pl.2.2.1.2.2.1 h'.bd.2.2.2.1 N h'.pl.2.2.1.2.1 h'.bd.2.2.1 mi hmi hm2
theorem s_silence (l : Launch) (G : gG) {σ : gSt} {τ : Nat → Int64} (h : gInv σ τ) (a0 : Int32) : ∃ r σ1 τ1 σ2 τ2, gI l yX9_silence cX9_silence 2 (some .int) 5 120 G [.ref (gAd G 0), .int a0] σ τ r σ1 τ1 ∧ gI l yX10_silence cX10_silence 4 (some .int) 3 71 G [.ref (gAd G 96), .int a0] σ1 τ1 r σ2 τ2 ∧ gInv σ2 τ2 := by
  obtain ⟨⟨P, N, D, w, f, u, j, hd, t, h⟩, ht⟩ := h
  obtain ⟨mi, hm2, hmi0⟩ := h.mo.2.1
  obtain ⟨o, ho1, ho⟩ := h.ofs a0
  have ho2 : o ≤ 255 := by have := two8 h.bd.2.2.2.1; omega
  have h' : Rel σ (kS_silence σ a0 D N mi o) P N D w f u j hd t := Rel_cg h (fun _ _ => rfl) (fun c hc => fk_silence hc)
  have hmi : (kS_silence σ a0 D N mi o) 104 15 = nI mi := (congrFun (fk_silence (by omega)) 15).trans hmi0
  have q := p_silence h' hmi hm2 a0 ho1 ho
  refine ⟨kA_silence σ a0 D N mi o, kS_silence σ a0 D N mi o, τ, mS_silence (kS_silence σ a0 D N mi o) a0 D N mi, τ, k_silence l G σ τ a0 D h'.pl.2.1.2.2.1 h'.bd.2.2.2.1 N h'.pl.2.1.2.1 h'.bd.2.2.1 mi (h'.mo.1.1.trans hmi) hm2 h'.how o ho ho2, ?_, RelE_cg q.2 (fun c hc => fm_silence hc) (fun _ _ => rfl), ht⟩
  rw [q.1]
  exact m_silence l G _ τ a0 D h'.pl.2.2.1.2.2.1 h'.bd.2.2.2.1 N h'.pl.2.2.1.2.1 h'.bd.2.2.1 mi hmi hm2
theorem s_least (l : Launch) (G : gG) {σ : gSt} {τ : Nat → Int64} (h : gInv σ τ) (a0 a1 : Int32) : ∃ r σ1 τ1 σ2 τ2, gI l yX9_least cX9_least 3 (some .int) 5 118 G [.ref (gAd G 0), .int a0, .int a1] σ τ r σ1 τ1 ∧ gI l yX10_least cX10_least 5 (some .int) 4 102 G [.ref (gAd G 96), .int a0, .int a1] σ1 τ1 r σ2 τ2 ∧ gInv σ2 τ2 := by
  obtain ⟨⟨P, N, D, w, f, u, j, hd, t, h⟩, ht⟩ := h
  obtain ⟨mi, hm2, hmi0⟩ := h.mo.2.1
  have h' : Rel σ (kS_least σ a0 a1 D N w P mi) P N D w f u j hd t := Rel_cg h (fun _ _ => rfl) (fun c hc => fk_least hc)
  have hmi : (kS_least σ a0 a1 D N w P mi) 104 15 = nI mi := (congrFun (fk_least (by omega)) 15).trans hmi0
  have q := p_least h' hmi hm2 a0 a1
  refine ⟨kA_least σ a0 a1 D N w P mi, kS_least σ a0 a1 D N w P mi, τ, mS_least (kS_least σ a0 a1 D N w P mi) a0 a1 D N w P mi, τ, k_least l G σ τ a0 a1 D h'.pl.2.1.2.2.1 h'.bd.2.2.2.1 N h'.pl.2.1.2.1 h'.bd.2.2.1 w h'.pl.2.1.2.2.2.1 h'.bd.2.2.2.2.2.1 P h'.pl.2.1.1 h'.bd.2.1 mi (h'.mo.1.1.trans hmi) hm2 (h'.hplk a0), ?_, RelE_cg q.2 (fun c hc => fm_least hc) (fun _ _ => rfl), ht⟩
  rw [q.1]
  exact m_least l G _ τ a0 a1 D h'.pl.2.2.1.2.2.1 h'.bd.2.2.2.1 N h'.pl.2.2.1.2.1 h'.bd.2.2.1 w h'.pl.2.2.1.2.2.2.1 h'.bd.2.2.2.2.2.1 P h'.pl.2.2.1.1 h'.bd.2.1 mi hmi hm2 (h'.hplm a0) (fun c1 c2 => h'.hexm c1 c2)
theorem s_hears (l : Launch) (G : gG) {σ : gSt} {τ : Nat → Int64} (h : gInv σ τ) (a0 a1 a2 : Int32) : ∃ r σ1 τ1 σ2 τ2, gI l yX9_hears cX9_hears 4 (some .int) 1 23 G [.ref (gAd G 0), .int a0, .int a1, .int a2] σ τ r σ1 τ1 ∧ gI l yX10_hears cX10_hears 4 (some .int) 2 43 G [.ref (gAd G 96), .int a0, .int a1, .int a2] σ1 τ1 r σ2 τ2 ∧ gInv σ2 τ2 := by
  obtain ⟨⟨P, N, D, w, f, u, j, hd, t, h⟩, ht⟩ := h
  have h' : Rel σ (kS_hears σ a0 a1 a2 hd) P N D w f u j hd t := Rel_cg h (fun _ _ => rfl) (fun c hc => fk_hears hc)
  have q := p_hears h' a0 a1 a2
  refine ⟨kA_hears σ a0 a1 a2 hd, kS_hears σ a0 a1 a2 hd, τ, mS_hears (kS_hears σ a0 a1 a2 hd) a0 a1 a2 hd, τ, k_hears l G σ τ a0 a1 a2 hd h'.he.2.1 h'.he.1, ?_, RelE_cg q.2 (fun c hc => fm_hears hc) (fun _ _ => rfl), ht⟩
  rw [q.1]
  exact m_hears l G _ τ a0 a1 a2 hd h'.he.2.2.1 h'.he.1
theorem s_forget (l : Launch) (G : gG) {σ : gSt} {τ : Nat → Int64} (h : gInv σ τ) : ∃ r σ1 τ1 σ2 τ2, gI l yX9_forget cX9_forget 1 (some .int) 1 21 G [.ref (gAd G 0)] σ τ r σ1 τ1 ∧ gI l yX10_forget cX10_forget 2 (some .int) 0 0 G [.ref (gAd G 96)] σ1 τ1 r σ2 τ2 ∧ gInv σ2 τ2 := by
  obtain ⟨⟨P, N, D, w, f, u, j, hd, t, h⟩, ht⟩ := h
  have h' : Rel σ (kS_forget σ ) P N D w f u j hd t := Rel_cg h (fun _ _ => rfl) (fun c hc => fk_forget hc)
  have q := p_forget h'
  refine ⟨kA_forget σ , kS_forget σ , τ, mS_forget (kS_forget σ ) , τ, k_forget l G σ τ , ?_, RelE_cg q.2 (fun c hc => fm_forget hc) (fun _ _ => rfl), ht⟩
  rw [q.1]
  exact m_forget l G _ τ 
theorem s_can (l : Launch) (G : gG) {σ : gSt} {τ : Nat → Int64} (h : gInv σ τ) (a0 : Int32) : ∃ r σ1 τ1 σ2 τ2, gI l yX9_can cX9_can 2 (some .int) 6 138 G [.ref (gAd G 0), .int a0] σ τ r σ1 τ1 ∧ gI l yX10_can cX10_can 6 (some .int) 2 43 G [.ref (gAd G 96), .int a0] σ1 τ1 r σ2 τ2 ∧ gInv σ2 τ2 := by
  obtain ⟨⟨P, N, D, w, f, u, j, hd, t, h⟩, ht⟩ := h
  have h' : Rel σ (kS_can σ a0 hd D P) P N D w f u j hd t := Rel_cg h (fun _ _ => rfl) (fun c hc => fk_can hc)
  have q := p_can h' a0
  refine ⟨kA_can σ a0 hd D P, kS_can σ a0 hd D P, τ, mS_can (kS_can σ a0 hd D P) a0 hd D P, τ, k_can l G σ τ a0 hd h'.he.2.1 h'.he.1 D h'.pl.2.1.2.2.1 h'.bd.2.2.2.1 P h'.pl.2.1.1 h'.bd.2.1, ?_, RelE_cg q.2 (fun c hc => fm_can hc) (fun _ _ => rfl), ht⟩
  rw [q.1]
  exact m_can l G _ τ a0 hd h'.he.2.2.1 h'.he.1 D h'.pl.2.2.1.2.2.1 h'.bd.2.2.2.1 P h'.pl.2.2.1.1 h'.bd.2.1
theorem s_tells (l : Launch) (G : gG) {σ : gSt} {τ : Nat → Int64} (h : gInv σ τ) (a0 a1 a2 : Int32) : ∃ r σ1 τ1 σ2 τ2, gI l yX9_tells cX9_tells 4 (some .int) 5 114 G [.ref (gAd G 0), .int a0, .int a1, .int a2] σ τ r σ1 τ1 ∧ gI l yX10_tells cX10_tells 5 (some .int) 2 43 G [.ref (gAd G 96), .int a0, .int a1, .int a2] σ1 τ1 r σ2 τ2 ∧ gInv σ2 τ2 := by
  obtain ⟨⟨P, N, D, w, f, u, j, hd, t, h⟩, ht⟩ := h
  have h' : Rel σ (kS_tells σ a0 a1 a2 D) P N D w f u j hd t := Rel_cg h (fun _ _ => rfl) (fun c hc => fk_tells hc)
  have q := p_tells h' a0 a1 a2
  refine ⟨kA_tells σ a0 a1 a2 D, kS_tells σ a0 a1 a2 D, τ, mS_tells (kS_tells σ a0 a1 a2 D) a0 a1 a2 D, τ, k_tells l G σ τ a0 a1 a2 D h'.pl.2.1.2.2.1 h'.bd.2.2.2.1, ?_, RelE_cg q.2 (fun c hc => fm_tells hc) (fun _ _ => rfl), ht⟩
  rw [q.1]
  exact m_tells l G _ τ a0 a1 a2 D h'.pl.2.2.1.2.2.1 h'.bd.2.2.2.1
theorem s_odds (l : Launch) (G : gG) {σ : gSt} {τ : Nat → Int64} (h : gInv σ τ) (a0 a1 a2 a3 : Int32) : ∃ r σ1 τ1 σ2 τ2, gI l yX9_odds cX9_odds 9 (some .int) 3 67 G [.ref (gAd G 0), .int a0, .int a1, .int a2, .int a3] σ τ r σ1 τ1 ∧ gI l yX10_odds cX10_odds 8 (some .int) 2 43 G [.ref (gAd G 96), .int a0, .int a1, .int a2, .int a3] σ1 τ1 r σ2 τ2 ∧ gInv σ2 τ2 := by
  obtain ⟨⟨P, N, D, w, f, u, j, hd, t, h⟩, ht⟩ := h
  have h' : Rel σ (kS_odds σ a0 a1 a2 a3 D N) P N D w f u j hd t := Rel_cg h (fun _ _ => rfl) (fun c hc => fk_odds hc)
  have q := p_odds h' a0 a1 a2 a3
  refine ⟨kA_odds σ a0 a1 a2 a3 D N, kS_odds σ a0 a1 a2 a3 D N, τ, mS_odds (kS_odds σ a0 a1 a2 a3 D N) a0 a1 a2 a3 D N, τ, k_odds l G σ τ a0 a1 a2 a3 D h'.pl.2.1.2.2.1 h'.bd.2.2.2.1 N h'.pl.2.1.2.1 h'.bd.2.2.1, ?_, RelE_cg q.2 (fun c hc => fm_odds hc) (fun _ _ => rfl), ht⟩
  rw [q.1]
  exact m_odds l G _ τ a0 a1 a2 a3 D h'.pl.2.2.1.2.2.1 h'.bd.2.2.2.1 N h'.pl.2.2.1.2.1 h'.bd.2.2.1
theorem kT_o {τ : Nat → Int64} {x : Int64} : kT τ x 96 = τ 96 := by simp [kT, va_up]
theorem kT_96 {σ : gSt} {a0 a1 : Int32} {D : Nat} {τ : Nat → Int64} : kT_rate σ a0 a1 D τ 96 = τ 96 := by
  unfold kT_rate
  repeat' split
  all_goals simp only [kT_o]
theorem mT_83 {σ : gSt} {a0 a1 : Int32} {D : Nat} {τ : Nat → Int64} : mT_rate σ a0 a1 D τ 83 = τ 83 := by
  unfold mT_rate
  split
  · rw [va_up, if_neg (by decide)]
  · rfl
theorem s_rate (l : Launch) (G : gG) {σ : gSt} {τ : Nat → Int64} (h : gInv σ τ) (a0 a1 : Int32) : ∃ r σ1 τ1 σ2 τ2, gI l yX9_rate cX9_rate 3 (some .int) 4 90 G [.ref (gAd G 0), .int a0, .int a1] σ τ r σ1 τ1 ∧ gI l yX10_rate cX10_rate 6 (some .int) 2 43 G [.ref (gAd G 96), .int a0, .int a1] σ1 τ1 r σ2 τ2 ∧ gInv σ2 τ2 := by
  obtain ⟨⟨P, N, D, w, f, u, j, hd, t, h⟩, ht⟩ := h
  have h' : Rel σ (kS_rate σ a0 a1 D) P N D w f u j hd t := Rel_cg h (fun _ _ => rfl) (fun c hc => fk_rate hc)
  have q := p_rate h' a0 a1 τ (kT_rate σ a0 a1 D τ) (by rw [kT_96]; exact ht)
  refine ⟨kA_rate σ a0 a1 D, kS_rate σ a0 a1 D, kT_rate σ a0 a1 D τ, mS_rate (kS_rate σ a0 a1 D) a0 a1 D, mT_rate (kS_rate σ a0 a1 D) a0 a1 D (kT_rate σ a0 a1 D τ), k_rate l G σ τ a0 a1 D h'.pl.2.1.2.2.1 h'.bd.2.2.2.1 h'.how, ?_, RelE_cg q.2 (fun c hc => fm_rate hc) (fun _ _ => rfl), ?_⟩
  · rw [q.1.1]
    exact m_rate l G _ _ a0 a1 D h'.pl.2.2.1.2.2.1 h'.bd.2.2.2.1 h'.howm
  · rw [mT_83]; exact q.1.2
theorem s_keep (l : Launch) (G : gG) {σ : gSt} {τ : Nat → Int64} (h : gInv σ τ) (a0 : Int32) : ∃ r σ1 τ1 σ2 τ2, gI l yX9_keep cX9_keep 2 (some .int) 2 61 G [.ref (gAd G 0), .int a0] σ τ r σ1 τ1 ∧ gI l yX10_keep cX10_keep 3 (some .int) 1 22 G [.ref (gAd G 96), .int a0] σ1 τ1 r σ2 τ2 ∧ gInv σ2 τ2 := by
  obtain ⟨⟨P, N, D, w, f, u, j, hd, t, h⟩, ht⟩ := h
  have h' : Rel σ (kS_keep σ a0) P N D w f u j hd t := Rel_cg h (fun _ _ => rfl) (fun c hc => fk_keep hc)
  have q := p_keep h' a0
  refine ⟨kA_keep σ a0, kS_keep σ a0, τ, mS_keep (kS_keep σ a0) a0, τ, k_keep l G σ τ a0, ?_, RelE_cg q.2 (fun c hc => fm_keep hc) (fun _ _ => rfl), ht⟩
  rw [q.1]
  exact m_keep l G _ τ a0
theorem s_back (l : Launch) (G : gG) {σ : gSt} {τ : Nat → Int64} (h : gInv σ τ) (a0 : Int32) : ∃ r σ1 τ1 σ2 τ2, gI l yX9_back cX9_back 2 (some .int) 2 61 G [.ref (gAd G 0), .int a0] σ τ r σ1 τ1 ∧ gI l yX10_back cX10_back 3 (some .int) 1 22 G [.ref (gAd G 96), .int a0] σ1 τ1 r σ2 τ2 ∧ gInv σ2 τ2 := by
  obtain ⟨⟨P, N, D, w, f, u, j, hd, t, h⟩, ht⟩ := h
  have h' : Rel σ (kS_back σ a0) P N D w f u j hd t := Rel_cg h (fun _ _ => rfl) (fun c hc => fk_back hc)
  have q := p_back h' a0
  refine ⟨kA_back σ a0, kS_back σ a0, τ, mS_back (kS_back σ a0) a0, τ, k_back l G σ τ a0, ?_, RelE_cg q.2 (fun c hc => fm_back hc) (fun _ _ => rfl), ht⟩
  rw [q.1]
  exact m_back l G _ τ a0
theorem s_count (l : Launch) (G : gG) {σ : gSt} {τ : Nat → Int64} (h : gInv σ τ) (a0 : Int32) : ∃ r σ1 τ1 σ2 τ2, gI l yX9_count cX9_count 2 (some .int) 0 0 G [.ref (gAd G 0), .int a0] σ τ r σ1 τ1 ∧ gI l yX10_count cX10_count 2 (some .int) 1 22 G [.ref (gAd G 96), .int a0] σ1 τ1 r σ2 τ2 ∧ gInv σ2 τ2 := by
  obtain ⟨⟨P, N, D, w, f, u, j, hd, t, h⟩, ht⟩ := h
  have h' : Rel σ (kS_count σ a0) P N D w f u j hd t := Rel_cg h (fun _ _ => rfl) (fun c hc => fk_count hc)
  have q := p_count h' a0
  refine ⟨kA_count σ a0, kS_count σ a0, τ, mS_count (kS_count σ a0) a0, τ, k_count l G σ τ a0, ?_, RelE_cg q.2 (fun c hc => fm_count hc) (fun _ _ => rfl), ht⟩
  rw [q.1]
  exact m_count l G _ τ a0
theorem s_trace (l : Launch) (G : gG) {σ : gSt} {τ : Nat → Int64} (h : gInv σ τ) : ∃ r σ1 τ1 σ2 τ2, gJ l yX9_trace cX9_trace 1 (some .long) 0 0 G [.ref (gAd G 0)] σ τ r σ1 τ1 ∧ gJ l yX10_trace cX10_trace 1 (some .long) 0 0 G [.ref (gAd G 96)] σ1 τ1 r σ2 τ2 ∧ gInv σ2 τ2 := by
  refine ⟨τ 83, σ, τ, σ, τ, k_trace l G σ τ, ?_, h⟩
  rw [h.2]
  exact m_trace l G σ τ
