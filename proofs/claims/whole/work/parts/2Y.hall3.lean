/-! halls: the whole text, both parsers in step -/
section HallL
variable {σ τ : Mm} {b : Nat → Nat} {L p : Nat}
theorem X_hallL : ∀ (d : Nat) (i : Nat) (σ τ : Mm) (p np nr : Nat) (ruled : Bool), L - p ≤ d → i ≤ p → RF σ → TC σ b L p → TM τ 311 0 b L p → gI τ 310 11 = -1 → gR τ 310 19 = some 316 → gR τ 310 21 = some 318 → gR τ 310 23 = some 320 → HS σ τ np nr ruled → ∀ K K', d + 2 < K → d + 2 < K' →
    ∃ σ' τ', Sm tHC σ σ' ∧ Sm tHM τ τ' ∧
    ((∃ e, wh (fun a : Int32 × Int32 × Mm => fX1_parse_l43 7 a.1 a.2.1 a.2.2) K (1, nI i, σ) = some (Sum.inl (0, σ')) ∧ gI σ' 1 3 = nI e ∧ wh (fun a : Int32 × Mm => fX10_readHall_l55 310 a.1 a.2) K' (1, τ) = some τ' ∧ gI τ' 310 11 = nI e ∧ e ≤ 240) ∨
     (∃ q np' nr' ruled', wh (fun a : Int32 × Int32 × Mm => fX1_parse_l43 7 a.1 a.2.1 a.2.2) K (1, nI i, σ) = some (Sum.inr σ') ∧ wh (fun a : Int32 × Mm => fX10_readHall_l55 310 a.1 a.2) K' (1, τ) = some τ' ∧ TC σ' b L q ∧ TM τ' 311 0 b L q ∧ sk b L q = q ∧ gI τ' 310 11 = -1 ∧ HS σ' τ' np' nr' ruled')) := by
  intro d
  induction d with
  | zero =>
    intro i σ τ p np nr ruled hd hi hF h k hf r19 r21 r23 hS K K' hK hK'
    obtain ⟨K, rfl⟩ : ∃ x, K = x + 2 := ⟨K - 2, by omega⟩
    obtain ⟨K', rfl⟩ : ∃ x, K' = x + 2 := ⟨K' - 2, by omega⟩
    have hL := h.2.1
    obtain ⟨σ1, τ1, a1, a2, a3⟩ := X_clause hF h k hf r19 r21 r23 hS
    rcases a3 with ⟨e, b1, b2, b3, b4, b5⟩ | ⟨q, np', nr', ruled', b1, b2, -⟩
    · refine ⟨σ1, τ1, a1, a2, Or.inl ⟨e, ?_, b2, ?_, b4, b5⟩⟩
      · refine whR ?_
        dsimp only
        unfold fX1_parse_l43
        rw [if_neg z1, if_neg (show ¬ (240 : Int32) < nI i from fun z => absurd ((ltT (a := 240) (by have := h.1; omega) (by have := h.1; omega)).mp z) (by have := h.1; omega)), b1, bnd2_some, if_pos rfl]
      · have st : fX10_readHall_l55 310 1 τ = some (Sum.inl (0, τ1)) := by
          unfold fX10_readHall_l55 fX10_readHall_b92 fX10_readHall_b93
          rw [if_neg z1, hf, if_pos rfl, b3, Option.bind_some, b4, if_neg (fun z => (eqN1 (by omega)).mp z), if_pos rfl]
        have eM : wh (fun a : Int32 × Mm => fX10_readHall_l55 310 a.1 a.2) (K' + 2) (1, τ) = wh (fun a : Int32 × Mm => fX10_readHall_l55 310 a.1 a.2) (K' + 1) (0, τ1) := whL st
        rw [eM]
        refine whR ?_
        dsimp only
        unfold fX10_readHall_l55
        rw [if_pos rfl]
    · have := h.1; omega
  | succ d ih =>
    intro i σ τ p np nr ruled hd hi hF h k hf r19 r21 r23 hS K K' hK hK'
    obtain ⟨K, rfl⟩ : ∃ x, K = x + 2 := ⟨K - 2, by omega⟩
    obtain ⟨K', rfl⟩ : ∃ x, K' = x + 2 := ⟨K' - 2, by omega⟩
    have hL := h.2.1
    have hpL := h.1
    have i240 : ¬ (240 : Int32) < nI i := fun z => absurd ((ltT (a := 240) (by omega) (by omega)).mp z) (by omega)
    obtain ⟨σ1, τ1, a1, a2, a3⟩ := X_clause hF h k hf r19 r21 r23 hS
    rcases a3 with ⟨e, b1, b2, b3, b4, b5⟩ | ⟨q, np', nr', ruled', b1, b2, b3, b4, b5, b6, b7, b8⟩
    · refine ⟨σ1, τ1, a1, a2, Or.inl ⟨e, ?_, b2, ?_, b4, b5⟩⟩
      · refine whR ?_
        dsimp only
        unfold fX1_parse_l43
        rw [if_neg z1, if_neg i240, b1, bnd2_some, if_pos rfl]
      · have st : fX10_readHall_l55 310 1 τ = some (Sum.inl (0, τ1)) := by
          unfold fX10_readHall_l55 fX10_readHall_b92 fX10_readHall_b93
          rw [if_neg z1, hf, if_pos rfl, b3, Option.bind_some, b4, if_neg (fun z => (eqN1 (by omega)).mp z), if_pos rfl]
        have eM : wh (fun a : Int32 × Mm => fX10_readHall_l55 310 a.1 a.2) (K' + 2) (1, τ) = wh (fun a : Int32 × Mm => fX10_readHall_l55 310 a.1 a.2) (K' + 1) (0, τ1) := whL st
        rw [eM]
        refine whR ?_
        dsimp only
        unfold fX10_readHall_l55
        rw [if_pos rfl]
    · have hF1 := hF.sm a1
      obtain ⟨r0, -⟩ := hF1.nx
      obtain ⟨s1, s2, s3⟩ := sk_bd (b := b) b5.1
      have cS : fX1_parse_l43 7 1 (nI i) σ = bnd2 (fX7_goOver 1 59 σ1) fun vk10 sk10 => some (Sum.inl (vk10, nI (i + 1), sk10)) := by
        unfold fX1_parse_l43
        rw [if_neg z1, if_neg i240, b3, bnd2_some, if_neg z1, r0, Option.bind_some, nI_1]
      have mS : fX10_readHall_l55 310 1 τ = if sg b L q = 59 then fX10_readHall_b93 310 1 (sI τ1 310 10 (nI (sk b L q))) else fX10_readHall_b92 310 (sI τ1 310 10 (nI (sk b L q))) := by
        unfold fX10_readHall_l55
        rw [if_neg z1, hf, if_pos rfl, b4, Option.bind_some, b7, if_pos rfl, m_look b6, bnd2_some]
      have hM1 := b6.cur s2
      have hC1 := b5.cur s2
      have hHS : ∀ x y, HS (sI σ1 1 2 x) (sI τ1 310 10 y) np' nr' ruled' := fun x y => by
        obtain ⟨h1, h2, h3, h4, h5, h6, h7, h8, h9, h10, h11, h12⟩ := b8
        have eC : ∀ c k, c ≠ 1 → gI (sI σ1 1 2 x) c k = gI σ1 c k := fun c k hc => by rw [gI_sI, if_neg (by omega)]
        have eM : ∀ c k, (c = 310 → k ≠ 10) → gI (sI τ1 310 10 y) c k = gI τ1 c k := fun c k hc => by rw [gI_sI, if_neg (by omega)]
        exact ⟨by rw [eC _ _ (by omega)]; exact h1, by rw [eM _ _ (by omega)]; exact h2, h3, by rw [eC _ _ (by omega)]; exact h4, by rw [eM _ _ (by omega)]; exact h5, h6, by rw [eC _ _ (by omega)]; exact h7, by rw [eM _ _ (by omega)]; exact h8, h9.of (fun _ => eC _ _ (by omega)) (fun _ => eM _ _ (by omega)), fun hq y hy => by rw [eC _ _ (by omega)]; exact h10 hq y hy, fun p hp => (h11 p hp).of (fun _ => eC _ _ (by omega)) (fun _ => eM _ _ (by omega)), fun p hp => (h12 p hp).of (fun _ => eC _ _ (by omega)) (fun _ => eM _ _ (by omega))⟩
      have f1 : ∀ x, gI (sI τ1 310 10 x) 310 11 = -1 := fun x => by rw [gI_sI, if_neg (by omega)]; exact b7
      by_cases q59 : sg b L q = 59
      · have hlt := sg_lt (x := 59) (by omega) q59
        have cS2 : fX1_parse_l43 7 1 (nI i) σ = some (Sum.inl (1, nI (i + 1), sI σ1 1 2 (nI (sk b L q + 1)))) := by
          rw [cS, c_goOver b5, if_pos q59, bnd2_some]
        have mS2 : fX10_readHall_l55 310 1 τ = some (Sum.inl (1, sI τ1 310 10 (nI (sk b L q + 1)))) := by
          rw [mS, if_pos q59]
          unfold fX10_readHall_b93
          rw [if_neg z1, hM1.2.2.2.2.2.2.2.1, nI_1, sI_sI]
        have sc2 : Sm tHC σ (sI σ1 1 2 (nI (sk b L q + 1))) := a1.sI rfl
        have sm2 : Sm tHM τ (sI τ1 310 10 (nI (sk b L q + 1))) := a2.sI rfl
        obtain ⟨σ', τ', c1, c2, c3⟩ := ih (i + 1) (sI σ1 1 2 (nI (sk b L q + 1))) (sI τ1 310 10 (nI (sk b L q + 1))) (sk b L q + 1) np' nr' ruled' (by omega) (by omega) (hF.sm sc2) (b5.cur (by omega)) (b6.cur (by omega)) (f1 _) (by rw [sm2.2.2 _ _ (by omega)]; exact r19) (by rw [sm2.2.2 _ _ (by omega)]; exact r21) (by rw [sm2.2.2 _ _ (by omega)]; exact r23) (hHS _ _) (K + 1) (K' + 1) (by omega) (by omega)
        have eC : wh (fun a : Int32 × Int32 × Mm => fX1_parse_l43 7 a.1 a.2.1 a.2.2) (K + 2) (1, nI i, σ) = wh (fun a : Int32 × Int32 × Mm => fX1_parse_l43 7 a.1 a.2.1 a.2.2) (K + 1) (1, nI (i + 1), sI σ1 1 2 (nI (sk b L q + 1))) := whL cS2
        have eM : wh (fun a : Int32 × Mm => fX10_readHall_l55 310 a.1 a.2) (K' + 2) (1, τ) = wh (fun a : Int32 × Mm => fX10_readHall_l55 310 a.1 a.2) (K' + 1) (1, sI τ1 310 10 (nI (sk b L q + 1))) := whL mS2
        rw [eC, eM]
        exact ⟨σ', τ', sc2.tr c1, sm2.tr c2, c3⟩
      · have cS2 : fX1_parse_l43 7 1 (nI i) σ = some (Sum.inl (0, nI (i + 1), sI σ1 1 2 (nI (sk b L q)))) := by
          rw [cS, c_goOver b5, if_neg q59, bnd2_some]
        have mS2 : fX10_readHall_l55 310 1 τ = some (Sum.inl (0, sI τ1 310 10 (nI (sk b L q)))) := by
          rw [mS, if_neg q59]
          unfold fX10_readHall_b92 fX10_readHall_b93
          rw [if_pos rfl]
        have eC : wh (fun a : Int32 × Int32 × Mm => fX1_parse_l43 7 a.1 a.2.1 a.2.2) (K + 2) (1, nI i, σ) = some (Sum.inr (sI σ1 1 2 (nI (sk b L q)))) := by
          have : wh (fun a : Int32 × Int32 × Mm => fX1_parse_l43 7 a.1 a.2.1 a.2.2) (K + 2) (1, nI i, σ) = wh (fun a : Int32 × Int32 × Mm => fX1_parse_l43 7 a.1 a.2.1 a.2.2) (K + 1) (0, nI (i + 1), sI σ1 1 2 (nI (sk b L q))) := whL cS2
          rw [this]
          refine whR ?_
          dsimp only
          unfold fX1_parse_l43
          rw [if_pos rfl]
        have eM : wh (fun a : Int32 × Mm => fX10_readHall_l55 310 a.1 a.2) (K' + 2) (1, τ) = some (sI τ1 310 10 (nI (sk b L q))) := by
          have : wh (fun a : Int32 × Mm => fX10_readHall_l55 310 a.1 a.2) (K' + 2) (1, τ) = wh (fun a : Int32 × Mm => fX10_readHall_l55 310 a.1 a.2) (K' + 1) (0, sI τ1 310 10 (nI (sk b L q))) := whL mS2
          rw [this]
          refine whR ?_
          dsimp only
          unfold fX10_readHall_l55
          rw [if_pos rfl]
        exact ⟨_, _, a1.sI rfl, a2.sI rfl, Or.inr ⟨sk b L q, np', nr', ruled', eC, eM, hC1, hM1, sk_sk b5.1, f1 _, hHS _ _⟩⟩
/-- what the end of the text is held to -/
def WhOK (σ : Mm) (np nr W H : Nat) : Prop := 0 < np ∧ 0 < nr ∧ (∀ p, p < np → ∃ c, c < W * H ∧ gI σ 9 (4 * p) = nI c) ∧ ∀ r, r < nr → ∃ c, c < W * H ∧ gI σ 10 (4 * r) = nI c
theorem kb : kLo 0 0 = 1 ∧ kHi 0 0 = 6 ∧ kLo 0 1 = 1 ∧ kHi 0 1 = 5 ∧ kLo 1 0 = 0 ∧ kHi 1 0 = 29 ∧ kLo 2 0 = 0 ∧ kHi 2 0 = 29 := by decide +kernel
theorem wh_bools {W H np : Nat} {v : Nat → Nat} (hz : W * H ≤ 30) (hn : np ≤ 12) (hv : ∀ p, p < np → v p ≤ 29) {f : Int32 × Int32 → Option ((Int32 × Int32) ⊕ Int32)} (hs : ∀ i a, i < np → (a = 0 ∨ a = 1) → f (a, nI i) = some (.inl (if a = 0 then 0 else if W * H ≤ v i then 0 else 1, nI (i + 1)))) (he : ∀ a, (a = 0 ∨ a = 1) → f (a, nI np) = some (.inr a)) (a0 : Int32) (h0 : a0 = 0 ∨ a0 = 1) : ∃ x, wh f BIG (a0, 0) = some x ∧ (x = 0 ∨ x = 1) ∧ (x = 1 ↔ a0 = 1 ∧ ∀ p, p < np → v p < W * H) := by
  refine wh_inv (fun i a => a.2 = nI i ∧ (a.1 = 0 ∨ a.1 = 1) ∧ (a.1 = 1 ↔ a0 = 1 ∧ ∀ p, p < i → v p < W * H)) _ np BIG 0 _ (Nat.zero_le _) (by unfold BIG; omega) ⟨rfl, h0, ⟨fun z => ⟨z, fun p hp => by omega⟩, fun z => z.1⟩⟩ ?_ ?_
  · rintro i ⟨a, j⟩ hi ⟨e1, e2, e3⟩
    simp only at e1 e2 e3
    subst e1
    left
    refine ⟨_, hs i a hi e2, rfl, ?_, ?_⟩
    · dsimp only
      split
      · exact Or.inl rfl
      · split
        · exact Or.inl rfl
        · exact Or.inr rfl
    · dsimp only
      rcases e2 with rfl | rfl
      · rw [if_pos rfl]
        constructor
        · intro z; exact absurd z (by decide)
        · rintro ⟨z1, z2⟩
          exact absurd (e3.mpr ⟨z1, fun p hp => z2 p (by omega)⟩) (by decide)
      · rw [if_neg z1]
        have e4 := e3.mp rfl
        by_cases q : W * H ≤ v i
        · rw [if_pos q]
          constructor
          · intro z; exact absurd z (by decide)
          · rintro ⟨_, z2⟩; have := z2 i (by omega); omega
        · rw [if_neg q]
          refine ⟨fun _ => ⟨e4.1, fun p hp => ?_⟩, fun _ => rfl⟩
          by_cases z : p = i
          · subst z; omega
          · exact e4.2 p (by omega)
  · rintro ⟨a, j⟩ ⟨e1, e2, e3⟩
    simp only at e1 e2 e3
    subst e1
    exact ⟨_, he a e2, e2, e3⟩
theorem X_whole {np nr : Nat} {ruled : Bool} (hF : RF σ) (r19 : gR τ 310 19 = some 316) (r21 : gR τ 310 21 = some 318) (r23 : gR τ 310 23 = some 320) (hS : HS σ τ np nr ruled) : ∃ W H x y, gI σ 8 0 = nI W ∧ gI σ 8 1 = nI H ∧ 1 ≤ W ∧ W ≤ 6 ∧ 1 ≤ H ∧ H ≤ 5 ∧ fX1_isPeopled 7 σ = some x ∧ (¬ x = 0 → fX1_cellsFit 7 σ = some y) ∧ fX10_isWhole 310 τ = some (if ¬ x = 0 ∧ ¬ y = 0 then 1 else 0) ∧ (¬ x = 0 → ¬ y = 0 → WhOK σ np nr W H) := by
  obtain ⟨r0, r1, r2, r3⟩ := hF.nx
  obtain ⟨l1, l2, l3, l4, l5, l6⟩ := lnH
  obtain ⟨h1, h2, h3, h4, h5, h6, h7, h8, h9, h10, h11, h12⟩ := hS
  obtain ⟨k1, k2, k3, k4, k5, k6, k7, k8⟩ := kb
  obtain ⟨W, w1, w2, w3, w4⟩ := h9 0 (by decide)
  obtain ⟨H, e1, e2, e3, e4⟩ := h9 1 (by decide)
  rw [k1] at w1; rw [k2] at w2; rw [k3] at e1; rw [k4] at e2
  rw [Nat.zero_add] at w3 w4 e3 e4
  have hz : W * H ≤ 30 := Nat.mul_le_mul w2 e2
  have pc : ∀ p, ∃ c, p < np → c ≤ 29 ∧ gI σ 9 (4 * p) = nI c ∧ gI τ 318 (4 * p) = nI c := fun p => by
    by_cases q : p < np
    · obtain ⟨c, c1, c2, c3, c4⟩ := h11 p q 0 (by decide)
      rw [k6] at c2
      exact ⟨c, fun _ => ⟨c2, c3, c4⟩⟩
    · exact ⟨0, fun z => absurd z q⟩
  have rc : ∀ p, ∃ c, p < nr → c ≤ 29 ∧ gI σ 10 (4 * p) = nI c ∧ gI τ 320 (4 * p) = nI c := fun p => by
    by_cases q : p < nr
    · obtain ⟨c, c1, c2, c3, c4⟩ := h12 p q 0 (by decide)
      rw [k8] at c2
      exact ⟨c, fun _ => ⟨c2, c3, c4⟩⟩
    · exact ⟨0, fun z => absurd z q⟩
  let vp : Nat → Nat := fun p => Classical.choose (pc p)
  let vr : Nat → Nat := fun p => Classical.choose (rc p)
  have pv : ∀ p, p < np → vp p ≤ 29 ∧ gI σ 9 (4 * p) = nI (vp p) ∧ gI τ 318 (4 * p) = nI (vp p) := fun p hp => Classical.choose_spec (pc p) hp
  have rv : ∀ p, p < nr → vr p ≤ 29 ∧ gI σ 10 (4 * p) = nI (vr p) ∧ gI τ 320 (4 * p) = nI (vr p) := fun p hp => Classical.choose_spec (rc p) hp
  -- the class's cells
  have hcl : fX1_cells 7 σ = some (nI (W * H)) := by
    unfold fX1_cells
    rw [r1, Option.bind_some, l1, if_pos (by decide), if_pos (by decide), show Int32.toNatClampNeg 0 = 0 from rfl, show Int32.toNatClampNeg 1 = 1 by decide, w3, e3, pk_mul]
  have hcell : ∀ c, c ≤ 29 → fX1_hasCell 7 (nI c) σ = some (if c < W * H then 1 else 0) := by
    intro c hc
    unfold fX1_hasCell
    rw [hcl, if_neg (nI_pos (by omega)), Option.bind_some]
    by_cases q : c < W * H
    · rw [if_neg (fun z => absurd ((leT (by omega) (by omega)).mp z) (by omega)), if_pos q]
    · rw [if_pos ((leT (by omega) (by omega)).mpr (by omega)), if_neg q]
  have hpc : ∀ p, p < np → fX1_pageCell 7 (nI p) σ = some (nI (vp p)) := by
    intro p hp
    unfold fX1_pageCell fX1_pageItem fX1_pageItem_b32
    rw [h1]
    have x2 : ¬ (12 : Int32) ≤ nI p := fun z => absurd ((leT (a := 12) (by omega) (by omega)).mp z) (by omega)
    have x3 : ¬ nI np ≤ nI p := fun z => absurd ((leT (by omega) (by omega)).mp z) (by omega)
    have i4 : nI p * 4 + 0 = nI (4 * p) := by rw [Int32.add_zero, Int32.mul_comm]; exact i4p p
    simp only [if_neg (nI_pos (show p < 2147483648 by omega)), if_neg x2, if_neg x3, if_neg (show ¬ (0 : Int32) < 0 by decide), if_neg (show ¬ (4 : Int32) ≤ 0 by decide), if_neg z1, r2, Option.bind_some, i4, l2, ixT (show 4 * p < 48 by omega) (by omega), if_true, clT (show 4 * p < 2147483648 by omega), (pv p hp).2.1]
  have hrc : ∀ p, p < nr → fX1_readerCell 7 (nI p) σ = some (nI (vr p)) := by
    intro p hp
    unfold fX1_readerCell fX1_readerItem fX1_readerItem_b32
    rw [h4]
    have x2 : ¬ (6 : Int32) ≤ nI p := fun z => absurd ((leT (a := 6) (by omega) (by omega)).mp z) (by omega)
    have x3 : ¬ nI nr ≤ nI p := fun z => absurd ((leT (by omega) (by omega)).mp z) (by omega)
    have i4 : nI p * 4 + 0 = nI (4 * p) := by rw [Int32.add_zero, Int32.mul_comm]; exact i4p p
    simp only [if_neg (nI_pos (show p < 2147483648 by omega)), if_neg x2, if_neg x3, if_neg (show ¬ (0 : Int32) < 0 by decide), if_neg (show ¬ (4 : Int32) ≤ 0 by decide), if_neg z1, r3, Option.bind_some, i4, l3, ixT (show 4 * p < 24 by omega) (by omega), if_true, clT (show 4 * p < 2147483648 by omega), (rv p hp).2.1]
  have cf : ∃ y, fX1_cellsFit 7 σ = some y ∧ (¬ y = 0 ↔ (∀ p, p < np → vp p < W * H) ∧ ∀ p, p < nr → vr p < W * H) := by
    have c1 : ∃ x, fX1_cellsFit_w2 7 0 σ = some x ∧ ((x = Sum.inl 0 ∧ ¬ ∀ p, p < np → vp p < W * H) ∨ (x = Sum.inr () ∧ ∀ p, p < np → vp p < W * H)) := by
      unfold fX1_cellsFit_w2
      refine wh_inv (fun i a => a = nI i ∧ ∀ p, p < i → vp p < W * H) _ np BIG 0 _ (Nat.zero_le _) (by unfold BIG; omega) ⟨rfl, fun p hp => by omega⟩ ?_ ?_
      · rintro i a hi ⟨rfl, e⟩
        unfold fX1_cellsFit_l2
        rw [h1, if_neg (fun z => absurd ((leT (by omega) (by omega)).mp z) (by omega)), hpc i hi, Option.bind_some, hcell _ (pv i hi).1, Option.bind_some]
        by_cases q : vp i < W * H
        · left
          rw [if_pos q, if_neg z1]
          refine ⟨_, rfl, nI_1 i, fun p hp => ?_⟩
          by_cases z : p = i
          · subst z; exact q
          · exact e p (by omega)
        · right
          rw [if_neg q, if_pos rfl]
          exact ⟨_, rfl, Or.inl ⟨rfl, fun z => q (z i hi)⟩⟩
      · rintro a ⟨rfl, e⟩
        unfold fX1_cellsFit_l2
        rw [h1, if_pos (Int32.le_refl _)]
        exact ⟨_, rfl, Or.inr ⟨rfl, e⟩⟩
    have c2 : ∃ x, fX1_cellsFit_w32 7 0 σ = some x ∧ ((x = 0 ∧ ¬ ∀ p, p < nr → vr p < W * H) ∨ (x = 1 ∧ ∀ p, p < nr → vr p < W * H)) := by
      unfold fX1_cellsFit_w32
      refine wh_inv (fun i a => a = nI i ∧ ∀ p, p < i → vr p < W * H) _ nr BIG 0 _ (Nat.zero_le _) (by unfold BIG; omega) ⟨rfl, fun p hp => by omega⟩ ?_ ?_
      · rintro i a hi ⟨rfl, e⟩
        unfold fX1_cellsFit_l32
        rw [h4, if_neg (fun z => absurd ((leT (by omega) (by omega)).mp z) (by omega)), hrc i hi, Option.bind_some, hcell _ (rv i hi).1, Option.bind_some]
        by_cases q : vr i < W * H
        · left
          rw [if_pos q, if_neg z1]
          refine ⟨_, rfl, nI_1 i, fun p hp => ?_⟩
          by_cases z : p = i
          · subst z; exact q
          · exact e p (by omega)
        · right
          rw [if_neg q, if_pos rfl]
          exact ⟨_, rfl, Or.inl ⟨rfl, fun z => q (z i hi)⟩⟩
      · rintro a ⟨rfl, e⟩
        unfold fX1_cellsFit_l32
        rw [h4, if_pos (Int32.le_refl _)]
        exact ⟨_, rfl, Or.inr ⟨rfl, e⟩⟩
    obtain ⟨x1, j1, j2⟩ := c1
    obtain ⟨x2, j3, j4⟩ := c2
    unfold fX1_cellsFit
    rw [j1]
    rcases j2 with ⟨rfl, j2⟩ | ⟨rfl, j2⟩
    · exact ⟨0, rfl, fun z => absurd rfl z, fun z => absurd z.1 j2⟩
    · rcases j4 with ⟨rfl, j4⟩ | ⟨rfl, j4⟩
      · refine ⟨0, ?_, fun z => absurd rfl z, fun z => absurd z.2 j4⟩
        show (fX1_cellsFit_w32 7 0 σ).bind (fun o10 => some o10) = _
        rw [j3]; rfl
      · refine ⟨1, ?_, fun _ => ⟨j2, j4⟩, fun _ => z1⟩
        show (fX1_cellsFit_w32 7 0 σ).bind (fun o10 => some o10) = _
        rw [j3]; rfl
  obtain ⟨y, y1, y2⟩ := cf
  have hp : ∃ x, fX1_isPeopled 7 σ = some x ∧ (¬ x = 0 ↔ 0 < np ∧ 0 < nr) := by
    unfold fX1_isPeopled
    rw [h1, h4]
    by_cases q1 : 0 < np
    · rw [if_neg (nI_nle q1 (by omega))]
      by_cases q2 : 0 < nr
      · rw [if_neg (nI_nle q2 (by omega))]
        exact ⟨1, rfl, fun _ => ⟨q1, q2⟩, fun _ => z1⟩
      · rw [show nr = 0 by omega, if_pos (show nI 0 ≤ 0 from Int32.le_refl _)]
        exact ⟨0, rfl, fun z => absurd rfl z, fun z => by omega⟩
    · rw [show np = 0 by omega, if_pos (show nI 0 ≤ 0 from Int32.le_refl _)]
      exact ⟨0, rfl, fun z => absurd rfl z, fun z => by omega⟩
  obtain ⟨x, x1, x2⟩ := hp
  have loopP : ∀ a0, (a0 = 0 ∨ a0 = 1) → ∃ v, fX10_isWhole_w36 310 (nI (W * H)) a0 0 τ = some v ∧ (v = 0 ∨ v = 1) ∧ (v = 1 ↔ a0 = 1 ∧ ∀ p, p < np → vp p < W * H) := by
    intro a0 h0
    unfold fX10_isWhole_w36
    refine wh_bools (f := fun a : Int32 × Int32 => fX10_isWhole_l36 310 (nI (W * H)) a.1 a.2 τ) hz h3 (fun p hp => (pv p hp).1) (fun i a hi ha => ?_) (fun a ha => ?_) a0 h0
    · dsimp only
      unfold fX10_isWhole_l36 fX10_isWhole_b64 fX10_isWhole_b65
      have x3 : ¬ nI np ≤ nI i := fun z => absurd ((leT (by omega) (by omega)).mp z) (by omega)
      have hv := (pv i hi).1
      simp only [h2, if_neg x3, r21, Option.bind_some, i4p, l5, ixT (show 4 * i < 48 by omega) (by omega), if_true, clT (show 4 * i < 2147483648 by omega), (pv i hi).2.2, nI_1, leT (show W * H < 2147483648 by omega) (show vp i < 2147483648 by omega)]
      split
      · rfl
      · split <;> rfl
    · dsimp only
      unfold fX10_isWhole_l36
      rw [h2, if_pos (Int32.le_refl _)]
  have loopR : ∀ a0, (a0 = 0 ∨ a0 = 1) → ∃ v, fX10_isWhole_w74 310 (nI (W * H)) a0 0 τ = some v ∧ (v = 0 ∨ v = 1) ∧ (v = 1 ↔ a0 = 1 ∧ ∀ p, p < nr → vr p < W * H) := by
    intro a0 h0
    unfold fX10_isWhole_w74
    refine wh_bools (f := fun a : Int32 × Int32 => fX10_isWhole_l74 310 (nI (W * H)) a.1 a.2 τ) hz (show nr ≤ 12 by omega) (fun p hp => (rv p hp).1) (fun i a hi ha => ?_) (fun a ha => ?_) a0 h0
    · dsimp only
      unfold fX10_isWhole_l74 fX10_isWhole_b102 fX10_isWhole_b103
      have x3 : ¬ nI nr ≤ nI i := fun z => absurd ((leT (by omega) (by omega)).mp z) (by omega)
      have hv := (rv i hi).1
      simp only [h5, if_neg x3, r23, Option.bind_some, i4p, l6, ixT (show 4 * i < 24 by omega) (by omega), if_true, clT (show 4 * i < 2147483648 by omega), (rv i hi).2.2, nI_1, leT (show W * H < 2147483648 by omega) (show vr i < 2147483648 by omega)]
      split
      · rfl
      · split <;> rfl
    · dsimp only
      unfold fX10_isWhole_l74
      rw [h5, if_pos (Int32.le_refl _)]
      rcases ha with rfl | rfl
      · rw [if_pos (by decide)]
      · rw [if_pos (by decide)]
  refine ⟨W, H, x, y, w3, e3, w1, w2, e1, e2, x1, fun _ => y1, ?_, fun z u => ?_⟩
  · unfold fX10_isWhole fX10_isWhole_b32
    have b33 : ∀ a0, (a0 = 0 ∨ a0 = 1) → fX10_isWhole_b33 310 (nI (W * H)) a0 τ = some (if a0 = 1 ∧ ¬ y = 0 then 1 else 0) := by
      intro a0 h0
      obtain ⟨v, v1, v2, v3⟩ := loopP a0 h0
      obtain ⟨u, u1, u2, u3⟩ := loopR v v2
      unfold fX10_isWhole_b33
      rw [v1, Option.bind_some]
      dsimp only
      rw [u1, Option.bind_some]
      have : u = 1 ↔ a0 = 1 ∧ ¬ y = 0 := by
        rw [u3, v3, y2]
        constructor
        · rintro ⟨⟨g1, g2⟩, g3⟩; exact ⟨g1, g2, g3⟩
        · rintro ⟨g1, g2, g3⟩; exact ⟨⟨g1, g2⟩, g3⟩
      by_cases q : a0 = 1 ∧ ¬ y = 0
      · rw [if_pos q, this.mpr q]
      · rw [if_neg q, u2.resolve_right (fun z => q (this.mp z))]
    rw [r19, Option.bind_some, l4, if_pos (by decide), if_pos (by decide), show Int32.toNatClampNeg 0 = 0 from rfl, show Int32.toNatClampNeg 1 = 1 by decide, w4, e4, pk_mul, h2, h5, b33 0 (Or.inl rfl), b33 1 (Or.inr rfl)]
    have f0 : ¬ ((0 : Int32) = 1 ∧ ¬ y = 0) := fun z => absurd z.1 (by decide)
    rw [if_neg f0]
    by_cases q1 : 0 < np
    · rw [if_neg (nI_nle q1 (by omega))]
      by_cases q2 : 0 < nr
      · have := x2.mpr ⟨q1, q2⟩
        rw [if_neg (nI_nle q2 (by omega))]
        by_cases q3 : y = 0
        · rw [if_neg (fun z => z.2 q3), if_neg (fun z => z.2 q3)]
        · rw [if_pos ⟨rfl, q3⟩, if_pos ⟨this, q3⟩]
      · have : x = 0 := Classical.byContradiction fun z => by have := (x2.mp z).2; omega
        rw [show nr = 0 by omega, if_pos (show nI 0 ≤ 0 from Int32.le_refl _), if_neg (fun z => z.1 this)]
    · have : x = 0 := Classical.byContradiction fun z => by have := (x2.mp z).1; omega
      rw [show np = 0 by omega, if_pos (show nI 0 ≤ 0 from Int32.le_refl _), if_neg (fun z => z.1 this)]
  · obtain ⟨g1, g2⟩ := x2.mp z
    obtain ⟨g3, g4⟩ := y2.mp u
    exact ⟨g1, g2, fun p hp => ⟨vp p, g3 p hp, (pv p hp).2.1⟩, fun p hp => ⟨vr p, g4 p hp, (rv p hp).2.1⟩⟩
end HallL
