/-! fault: the three sorts -/
section Fault2
variable {σ σ' τ : Mm} {D np nr W H S acts nl t npl : Nat} {ru pg rd w : Nat → Int32} {F : Nat → LF} {lw : Option LF} {jl pw : Nat → Nat → Int32} {b : Nat → Nat} {L : Nat} {z : Bool}
def fcore (k : Nat) (τ : Mm) : Option (Int32 × Mm) := (if k = 0 then fX10_readHall 310 τ else if k = 1 then fX10_goThrough 310 311 0 (gI τ 310 6) τ else fX10_readPlan 310 τ).bind fun s => some (gI s 310 11, s)
theorem m_fcore {k : Nat} (hk : k ≤ 2) (r1 : gR σ 310 1 = some 311) : fX10_fault 310 (nI k) σ = fcore k (sI σ 310 0 0) := by
  have hin : ∀ τ, fX10_isIn (Int32.toInt64 (nI k)) 0 2 τ = some 1 := fun τ => isInT (a := 0) (b := 2) ⟨k, by omega, hk, rfl⟩ (by omega)
  unfold fX10_fault fX10_fault_b28 fX10_fault_b46 fX10_fault_b55 fcore
  rw [hin, Option.bind_some, if_neg z1]
  rcases (show k = 0 ∨ k = 1 ∨ k = 2 by omega) with rfl | rfl | rfl
  · simp only [if_pos (show nI 0 = 0 from rfl), if_neg (show ¬ nI 0 = 1 by decide), if_neg (show ¬ nI 0 = 2 by decide)]
    rfl
  · have r1' : gR (sI σ 310 0 0) 310 1 = some 311 := r1
    rw [if_neg (show ¬ nI 1 = 0 by decide), if_pos (show nI 1 = 1 from rfl), r1', Option.bind_some, if_neg (by omega), if_pos rfl]
    simp only [if_neg (show ¬ nI 1 = 2 by decide)]
  · rw [if_neg (show ¬ nI 2 = 0 by decide), if_neg (show ¬ nI 2 = 1 by decide), if_pos (show nI 2 = 2 from rfl), if_neg (by omega), if_neg (by omega)]
def X0 (s1 τ2 : Mm) : Prop := ∃ np nr ruled W H, HS s1 τ2 np nr ruled ∧ gI s1 8 0 = nI W ∧ gI s1 8 1 = nI H ∧ 1 ≤ W ∧ W ≤ 6 ∧ 1 ≤ H ∧ H ≤ 5 ∧ WhOK s1 np nr W H
def X1 (nl : Nat) (σ s1 : Mm) : Prop := ∃ N, N ≤ 240 ∧ gI s1 (48 + 4 * nl) 4 = nI N ∧ CK (gI s1 (49 + 4 * nl)) (gI s1 (50 + 4 * nl)) N ∧ fX3_parse (48 + 4 * nl) σ = some (1, s1)
def X2 (npl : Nat) (s1 τ2 : Mm) : Prop := ∃ n, 1 ≤ n ∧ n ≤ 16 ∧ gI s1 (69 + 4 * npl) 4 = nI n ∧ gI τ2 322 4 = nI n ∧ Rows npl n s1 τ2
/-- what comes of a text in both -/
def PARS (nl npl k : Nat) (b : Nat → Nat) (L : Nat) (σ : Mm) (E : Mm → Mm → Prop) : Prop := ∃ x s1, fX9_isWhole 0 (nI k) σ = some (x, s1) ∧ Sm (sPar nl npl) σ s1 ∧ ∀ τ, MF τ b L → ∃ v τ2, fcore k τ = some (v, τ2) ∧ Sm sPm τ τ2 ∧ ((x = 0 ∧ gI s1 1 3 = v ∧ ¬ v = -1) ∨ (x = 1 ∧ v = -1 ∧ E s1 τ2))
theorem PAR0 (h : CMz z np nr W H ru pg rd nl F lw D w S jl acts pw σ) (e : TP σ b L) : PARS nl npl 0 b L σ X0 := by
  have go : ∀ τ, MF τ b L → ∃ σ' τ', Sm tHC σ σ' ∧ Sm (fun c k => tHM c k || tMs c k) τ τ' ∧ _ := fun τ hm => X_hall (L := L) h.rf e.1 e.cb e.2.1 hm.1.r1 hm.1.r19 hm.1.r21 hm.1.r23 hm.2.1 hm.2.2
  have iw : ∀ x s, fX1_parse 7 σ = some (x, s) → fX9_isWhole 0 (nI 0) σ = some (x, s) := fun x s hx => by
    unfold fX9_isWhole
    rw [if_pos (show nI 0 = 0 from rfl), h.rf.f0.2.2.1, Option.bind_some, hx, bnd2_some]
  have hm0 : MF (sI σ 310 0 0) b L := MF.of h e (Sm.rf : Sm (fun _ _ => false) σ σ) rfl (fun _ => rfl)
  have fin : ∀ τ s1 x, fX1_parse 7 σ = some (x, s1) → MF τ b L → ∃ v τ2, fcore 0 τ = some (v, τ2) ∧ Sm sPm τ τ2 ∧ ((x = 0 ∧ gI s1 1 3 = v ∧ ¬ v = -1) ∨ (x = 1 ∧ v = -1 ∧ X0 s1 τ2)) := fun τ s1 x hx hm => by
    obtain ⟨s', t', a1, a2, a3⟩ := go τ hm
    unfold fcore
    rw [if_pos rfl]
    rcases a3 with ⟨e', c1, c2, c3, c4, c5⟩ | ⟨np', nr', ruled, W', H', c1, c2, c3, c4⟩
    · rw [hx] at c1
      cases c1
      refine ⟨_, t', by rw [c3, Option.bind_some], pm_tHM a2, Or.inl ⟨rfl, by rw [c2, c4], by rw [c4]; exact fun z => (eqN1 (by omega)).mp z⟩⟩
    · rw [hx] at c1
      cases c1
      exact ⟨_, t', by rw [c2, Option.bind_some], pm_tHM a2, Or.inr ⟨rfl, c3, np', nr', ruled, W', H', c4⟩⟩
  obtain ⟨s', t', a1, a2, a3⟩ := go _ hm0
  rcases a3 with ⟨e', c1, -⟩ | ⟨np', nr', ruled, W', H', c1, -⟩
  · exact ⟨0, s', iw _ _ c1, up_tHC a1, fun τ hm => fin τ _ _ c1 hm⟩
  · exact ⟨1, s', iw _ _ c1, up_tHC a1, fun τ hm => fin τ _ _ c1 hm⟩
theorem PAR2 (h : CMz z np nr W H ru pg rd nl F lw D w S jl acts pw σ) (e : TP σ b L) (p : PLN σ npl) : PARS nl npl 2 b L σ (X2 npl) := by
  have p4 := p.1
  have l68 : ln 68 = 5 := by decide +kernel
  have go : ∀ τ, MF τ b L → ∃ σ' τ', Sm (tPc npl) σ σ' ∧ Sm (fun c k => tPm c k || tMs c k) τ τ' ∧ _ := fun τ hm => X_plan (L := L) (j := npl) (by omega) h.rf e.1 e.cb e.2.1 hm.1.r1 hm.1.r24 hm.1.r25 hm.2.1 hm.2.2
  have iw : ∀ x s, (x = 0 ∨ x = 1) → fX5_parse (69 + 4 * npl) σ = some (x, s) → fX9_isWhole 0 (nI 2) σ = some (x, s) := fun x s h01 hx => by
    unfold fX9_isWhole
    rw [if_neg (show ¬ nI 2 = 0 by decide), if_neg (show ¬ nI 2 = 1 by decide), if_pos (show nI 2 = 2 from rfl), h.rf.f0.2.2.2.2.2.2.1, Option.bind_some, l68, p.2.1, if_neg (show ¬ nI 5 ≤ nI npl from fun z => absurd ((leT (by omega) (by omega)).mp z) (by omega)), if_pos (ixT (by omega) (by omega)), clT (by omega), (h.rf.plan (show npl < 5 by omega)).1, Option.bind_some, hx, bnd2_some]
    rcases h01 with rfl | rfl
    · rw [if_pos rfl]
    · rw [if_neg z1]
  have hm0 : MF (sI σ 310 0 0) b L := MF.of h e (Sm.rf : Sm (fun _ _ => false) σ σ) rfl (fun _ => rfl)
  have fin : ∀ τ s1 x, fX5_parse (69 + 4 * npl) σ = some (x, s1) → MF τ b L → ∃ v τ2, fcore 2 τ = some (v, τ2) ∧ Sm sPm τ τ2 ∧ ((x = 0 ∧ gI s1 1 3 = v ∧ ¬ v = -1) ∨ (x = 1 ∧ v = -1 ∧ X2 npl s1 τ2)) := fun τ s1 x hx hm => by
    obtain ⟨s', t', a1, a2, a3⟩ := go τ hm
    unfold fcore
    rw [if_neg (by omega), if_neg (by omega)]
    rcases a3 with ⟨e', c1, c2, c3, c4, c5⟩ | ⟨n, n1, n16, c1, c2, c3, c4⟩
    · rw [hx] at c1
      cases c1
      refine ⟨_, t', by rw [c3, Option.bind_some], pm_tPm a2, Or.inl ⟨rfl, by rw [c2, c4], by rw [c4]; exact fun z => (eqN1 (by omega)).mp z⟩⟩
    · rw [hx] at c1
      cases c1
      exact ⟨_, t', by rw [c2, Option.bind_some], pm_tPm a2, Or.inr ⟨rfl, c3, n, n1, n16, c4⟩⟩
  obtain ⟨s', t', a1, a2, a3⟩ := go _ hm0
  rcases a3 with ⟨e', c1, -⟩ | ⟨n, n1, n16, c1, -⟩
  · exact ⟨0, s', iw _ _ (Or.inl rfl) c1, up_tPc a1, fun τ hm => fin τ _ _ c1 hm⟩
  · exact ⟨1, s', iw _ _ (Or.inr rfl) c1, up_tPc a1, fun τ hm => fin τ _ _ c1 hm⟩
theorem PAR1 (h : CMz z np nr W H ru pg rd nl F lw D w S jl acts pw σ) (e : TP σ b L) (q : LWS σ nl F) : PARS nl npl 1 b L σ (fun s1 _ => X1 nl σ s1) := by
  have n4 := h.2.1.1.2.1
  have l47 : ln 47 = 5 := by decide +kernel
  have go := fun (τ : Mm) (ℓ : Nat → Int32) (hl : LTR τ ℓ) (hm : ∀ k, k < L → b k < 256 ∧ gI τ 311 k = byI (nI (b k))) => X_lawtext (L := L) (ℓ := ℓ) (j := nl) (a := 311) (B := 0) (by omega) h.rf e.1 e.cb e.2.1 (Or.inl rfl) (by rw [ln2.2.1]; omega) hl (fun k hk => by rw [Nat.zero_add]; exact hm k hk)
  have iw : ∀ x s, (x = 0 ∨ x = 1) → fX3_parse (48 + 4 * nl) σ = some (x, s) → fX9_isWhole 0 (nI 1) σ = some (x, s) := fun x s h01 hx => by
    unfold fX9_isWhole
    rw [if_neg (show ¬ nI 1 = 0 by decide), if_pos (show nI 1 = 1 from rfl), h.rf.laws, Option.bind_some, l47, q.1, if_neg (show ¬ nI 5 ≤ nI nl from fun z => absurd ((leT (by omega) (by omega)).mp z) (by omega)), if_pos (ixT (by omega) (by omega)), clT (by omega), (h.rf.law (show nl < 5 by omega)).1, Option.bind_some, hx, bnd2_some]
    rcases h01 with rfl | rfl
    · rw [if_pos rfl]
    · rw [if_neg z1]
  have hm0 : MF (sI σ 310 0 0) b L := MF.of h e (Sm.rf : Sm (fun _ _ => false) σ σ) rfl (fun _ => rfl)
  have z0 := go (sA (sI σ 310 0 0) 314 (fun _ => 0)) (fun _ => 0) ⟨hm0.1.r4, fun i _ => by rw [gI_sA, if_pos rfl]⟩ (fun k hk => by rw [gI_sA, if_neg (by omega)]; exact hm0.2.2 k hk)
  have hz : LZ (fun _ => (0 : Int32)) := fun i _ => by show ¬ (0 : Int32) = -2147483648; decide
  have fin : ∀ τ s1 x, (x = 1 → X1 nl σ s1) → fX3_parse (48 + 4 * nl) σ = some (x, s1) → MF τ b L → ∃ v τ2, fcore 1 τ = some (v, τ2) ∧ Sm sPm τ τ2 ∧ ((x = 0 ∧ gI s1 1 3 = v ∧ ¬ v = -1) ∨ (x = 1 ∧ v = -1 ∧ X1 nl σ s1)) := fun τ s1 x hX hx hm => by
    unfold fcore
    rw [if_neg (by omega), if_pos rfl, hm.2.1]
    rcases go τ (fun i => gI τ 314 (chL i)) ⟨hm.1.r4, fun i _ => rfl⟩ hm.2.2 with ⟨e', s', t', c1, c2, c3, c4, c5, c6, c7⟩ | ⟨n, R, s', t', c1, c2, c3, c4, c5, c6, c7, c8, c9⟩
    · rw [hx] at c1
      cases c1
      refine ⟨_, t', (congrArg (fun x => Option.bind x _) c3).trans rfl, pm_sG c7, Or.inl ⟨rfl, by rw [c2, c4], by rw [c4]; exact fun z => (eqN1 (by omega)).mp z⟩⟩
    · rw [hx] at c1
      cases c1
      exact ⟨_, t', (congrArg (fun x => Option.bind x _) c2).trans rfl, pm_sG c7, Or.inr ⟨rfl, c3, hX rfl⟩⟩
  rcases z0 with ⟨e', s', t', c1, c2, c3, c4, c5, c6, c7⟩ | ⟨n, R, s', t', c1, c2, c3, c4, c5, c6, c7, c8, c9⟩
  · exact ⟨0, s', iw _ _ (Or.inl rfl) c1, up_tLc c6, fun τ hm => fin τ _ _ (fun z => absurd z (by decide)) c1 hm⟩
  · obtain ⟨c, hc⟩ := c9 hz
    exact ⟨1, s', iw _ _ (Or.inr rfl) c1, up_tLc c6, fun τ hm => fin τ _ _ (fun _ => ⟨n, c4, c5, Cs_ck c n R hc, c1⟩) c1 hm⟩
theorem X_fault (h : CMz z np nr W H ru pg rd nl F lw D w S jl acts pw σ) (hz9 : z = true ∨ np = 0) (e : EX np nr nl F D σ) (hD : D ≤ 60 * t) (x : Int32) : STEP t σ (fX9_fault 0 x σ) (fX10_fault 310 x) := by
  obtain ⟨⟨b, L, e1⟩, e2, e3, e4, ⟨npl, e7⟩, e8⟩ := id e
  have p4 := e7.1
  have n4 := h.2.1.1.2.1
  have r1 : gR σ 310 1 = some 311 := h.mm.1.hm.1.r1
  by_cases hx : ∃ k, 0 ≤ k ∧ k ≤ 2 ∧ x = nI k
  · obtain ⟨k, -, hk, rfl⟩ := hx
    have go : ∀ E, PARS nl npl k b L σ E → STEP t σ (fX9_fault 0 (nI k) σ) (fX10_fault 310 (nI k)) := fun E hp => by
      obtain ⟨x, s1, a1, a2, a3⟩ := hp
      have hm : MF (sI s1 310 0 0) b L := MF.of h e1 a2 (sPar_no (by omega)) (fun _ => sPar_no (by omega))
      obtain ⟨v, τ2, b1, b2, b3⟩ := a3 _ hm
      have s : Sm (sPar nl npl) σ τ2 := (a2.sI (by unfold sPar; simp)).tr b2.pm
      obtain ⟨q1, q2⟩ := h.par e e7 s
      refine STEP.mk (v := v) (σ1 := s1) (σ2 := τ2) ?_ ?_ q1 hz9 q2 (by omega)
      · unfold fX9_fault
        rw [if_neg (show ¬ nI k < 0 from fun z => absurd ((ltT (b := 0) (by omega) (by omega)).mp z) (by omega)), if_pos (show nI k ≤ 2 from (leT (b := 2) (by omega) (by omega)).mpr hk), a1, bnd2_some]
        rcases b3 with ⟨rfl, c1, c2⟩ | ⟨rfl, c1, c2⟩
        · rw [if_pos rfl, show gR s1 0 0 = some 1 from (a2.2.2 _ _ (by omega)).trans h.rf.f0.1, Option.bind_some, c1]
        · rw [if_neg z1, c1]
      · rw [m_fcore hk ((a2.2.2 _ _ (by omega)).trans r1)]; exact b1
    rcases (show k = 0 ∨ k = 1 ∨ k = 2 by omega) with rfl | rfl | rfl
    · exact go _ (PAR0 h e1)
    · exact go _ (PAR1 h e1 e2)
    · exact go _ (PAR2 h e1 e7)
  · have hin : ∀ τ, fX10_isIn (Int32.toInt64 x) 0 2 τ = some 0 := fun τ => isInF (a := 0) (b := 2) hx (by omega) (by omega)
    refine STEP.non (v := -2) h hz9 e hD ?_ ?_
    · unfold fX9_fault
      rcases i32_out (N := 3) (by omega) (fun ⟨k, h1, h2⟩ => hx ⟨k, by omega, by omega, h2⟩) with h1 | ⟨h1, h2⟩
      · rw [if_pos h1]
      · rw [if_neg h1, if_neg (fun z => absurd (Int32.le_trans h2 z) (by decide))]
    · unfold fX10_fault
      rw [hin, Option.bind_some, if_pos rfl]
end Fault2
