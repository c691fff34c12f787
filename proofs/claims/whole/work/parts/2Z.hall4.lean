/-! halls: both parsers, whole -/
section HallW
variable {σ τ : Mm} {b : Nat → Nat} {L p : Nat}
theorem m_usR (r19 : gR τ 310 19 = some 316) : ∃ τ', fX10_readHall_w30 310 0 τ = some τ' ∧ (Sm (fun c _ => c == 316) τ τ' ∧ (∀ k, k < 5 → gI τ' 316 k = nI (kUs 0 k)) ∧ gR τ' 310 5 = gR τ 310 5) := by
  obtain ⟨l1, l2, l3, l4, l5, l6⟩ := lnH
  unfold fX10_readHall_w30
  refine wh_inv (fun i a => a.1 = nI i ∧ Sm (fun c _ => c == 316) τ a.2 ∧ (∀ k, k < i → gI a.2 316 k = nI (kUs 0 k)) ∧ gR a.2 310 5 = gR τ 310 5) _ 5 BIG 0 _ (Nat.zero_le _) (by unfold BIG; omega) ⟨rfl, Sm.rf, fun k hk => by omega, rfl⟩ ?_ ?_
  · rintro i ⟨j, s⟩ hi ⟨e1, e2, e3, e4⟩
    simp only at e1 e2 e3 e4
    subst e1
    left
    have r19' : gR s 310 19 = some 316 := by rw [e2.2.2 _ _ (by omega)]; exact r19
    have us : fX10_usual 115 (nI i) s = some (nI (kUs 0 i)) := m_usual (κ := 0) (by omega) hi s
    unfold fX10_readHall_l30
    simp only [if_neg (show ¬ (5 : Int32) ≤ nI i from fun z => absurd ((leT (a := 5) (by omega) (by omega)).mp z) (by omega)), r19', us, Option.bind_some, l4, ixT hi (show 5 ≤ 2147483648 by omega), if_true, clT (show i < 2147483648 by omega), nI_1]
    refine ⟨_, rfl, rfl, e2.sI rfl, fun k hk => ?_, e4⟩
    dsimp only
    rw [gI_sI]
    by_cases q : k = i
    · rw [if_pos ⟨rfl, q⟩, q]
    · rw [if_neg (by omega)]; exact e3 k (by omega)
  · rintro ⟨j, s⟩ ⟨e1, e2, e3, e4⟩
    simp only at e1 e2 e3 e4
    subst e1
    unfold fX10_readHall_l30
    rw [if_pos (show (5 : Int32) ≤ nI 5 from Int32.le_refl _)]
    exact ⟨_, rfl, e2, e3, e4⟩
theorem X_hall (hF : RF σ) (hL : L ≤ 240) (hb : ∀ k, k < L → b k < 256 ∧ gI σ 2 k = nI (b k)) (h1 : gI σ 1 1 = nI L) (r1 : gR τ 310 1 = some 311) (r19 : gR τ 310 19 = some 316) (r21 : gR τ 310 21 = some 318) (r23 : gR τ 310 23 = some 320) (h6 : gI τ 310 6 = nI L) (hb' : ∀ k, k < L → b k < 256 ∧ gI τ 311 k = byI (nI (b k))) :
    ∃ σ' τ', Sm tHC σ σ' ∧ Sm (fun c k => tHM c k || tMs c k) τ τ' ∧
    ((∃ e, fX1_parse 7 σ = some (0, σ') ∧ gI σ' 1 3 = nI e ∧ fX10_readHall 310 τ = some τ' ∧ gI τ' 310 11 = nI e ∧ e ≤ 240) ∨
     (∃ np nr ruled W H, fX1_parse 7 σ = some (1, σ') ∧ fX10_readHall 310 τ = some τ' ∧ gI τ' 310 11 = -1 ∧ HS σ' τ' np nr ruled ∧ gI σ' 8 0 = nI W ∧ gI σ' 8 1 = nI H ∧ 1 ≤ W ∧ W ≤ 6 ∧ 1 ≤ H ∧ H ≤ 5 ∧ WhOK σ' np nr W H)) := by
  obtain ⟨q0, q1, q2, q3⟩ := hF.nx
  obtain ⟨l1, l2, l3, l4, l5, l6⟩ := lnH
  have tb := (it_tab 0 (by omega)).1
  generalize hS0 : sA (sI (sI (sI σ 7 4 0) 7 5 0) 7 6 0) 8 (va_cpy (KI ((1000 + 2) - 1000)) (gI (sI (sI (sI σ 7 4 0) 7 5 0) 7 6 0) 8) (Int32.toNatClampNeg 0) (Int32.toNatClampNeg 0) (Int32.toNatClampNeg (nI 5))) = S0
  have s0 : Sm tHC σ S0 := by rw [← hS0]; exact (((Sm.rf.sI rfl).sI rfl).sI rfl).sA (fun _ => rfl)
  obtain ⟨σ1, a1, a2, a3⟩ := c_rewind (σ := S0) (b := b) (by rw [← hS0]; exact hF.2.1) hL (by rw [← hS0, gI_sA, if_neg (by omega), gI_sI, if_neg (by omega), gI_sI, if_neg (by omega), gI_sI, if_neg (by omega)]; exact h1) (fun k hk => by rw [← hS0, gI_sA, if_neg (by omega), gI_sI, if_neg (by omega), gI_sI, if_neg (by omega), gI_sI, if_neg (by omega)]; exact hb k hk)
  obtain ⟨τ1, c1, c2, c3, c4⟩ := m_starts r1 hL h6 hb'
  have r19' : gR τ1 310 19 = some 316 := by rw [c4.2.2 _ _ (by omega)]; exact r19
  generalize hT0 : sI (sI (sI τ1 310 29 0) 310 30 0) 310 32 0 = T0
  obtain ⟨τ2, d1, d2, d3, d4⟩ := m_usR (τ := T0) (by rw [← hT0]; exact r19')
  have kT0 : TM T0 311 0 b L 0 := by rw [← hT0]; exact ((c2.oth (Or.inl ⟨rfl, by omega⟩)).oth (Or.inl ⟨rfl, by omega⟩)).oth (Or.inl ⟨rfl, by omega⟩)
  have nz : ∀ c k, c ≠ 316 → gI τ2 c k = gI T0 c k := fun c k hc => d2.1 c k (by simp [hc])
  have kT2 : TM τ2 311 0 b L 0 := by
    obtain ⟨h1, h2, h3, h4, h5, h6, h7, h8, h9⟩ := kT0
    exact ⟨h1, h2, by rw [d4]; exact h3, h4, h5, by rw [nz _ _ (by omega)]; exact h6, by rw [nz _ _ (by omega)]; exact h7, by rw [nz _ _ (by omega)]; exact h8, fun y hy => by rw [nz _ _ (by omega)]; exact h9 y hy⟩
  have f2 : gI τ2 310 11 = -1 := by
    rw [nz _ _ (by omega), ← hT0, gI_sI, if_neg (by omega), gI_sI, if_neg (by omega), gI_sI, if_neg (by omega)]; exact c3
  have s1 : Sm tHC σ σ1 := s0.tr (a3.mono (fun c k hc => (Bool.or_eq_false_iff.mp hc).1))
  have oC : ∀ c k, c ≠ 1 → gI σ1 c k = gI S0 c k := fun c k hc => a3.1 _ _ (by unfold tA; simp [hc])
  have mT : ∀ {x y : Mm}, Sm tHM x y → Sm (fun c k => tHM c k || tMs c k) x y := fun h => h.mono (fun c k hc => (Bool.or_eq_false_iff.mp hc).1)
  have m1 : Sm (fun c k => tHM c k || tMs c k) τ τ2 := by
    refine ((c4.mono (fun c k hc => (Bool.or_eq_false_iff.mp hc).2)).tr ?_ : Sm (fun c k => tHM c k || tMs c k) τ T0).tr (d2.mono (fun c k hc => ?_))
    · rw [← hT0]; exact ((Sm.rf.sI rfl).sI rfl).sI rfl
    · have := (Bool.or_eq_false_iff.mp hc).1
      unfold tHM at this
      simp only [Bool.or_eq_false_iff] at this
      exact this.1.1.1.2
  have row8 : ∀ y, y < 5 → gI σ1 8 y = nI (kUs 0 y) := fun y hy => by
    rw [oC _ _ (by omega), ← hS0, gI_sA, if_pos rfl]
    have := va_cpyN (KI (1000 + 2 - 1000)) (gI (sI (sI (sI σ 7 4 0) 7 5 0) 7 6 0) 8) (d := 0) (n := 5) (by omega) (by omega) y
    rw [show nI 0 = (0 : Int32) from rfl] at this
    rw [this, if_pos (by omega), Nat.sub_zero]
    exact (tb y hy).2.2.1
  have hHS : HS σ1 τ2 0 0 false := by
    refine ⟨?_, ?_, by omega, ?_, ?_, by omega, ?_, ?_, fun y hy => ?_, fun _ => row8, fun p hp => by omega, fun p hp => by omega⟩
    · rw [oC _ _ (by omega), ← hS0]; simp [gI_sA, gI_sI]; rfl
    · rw [nz _ _ (by omega), ← hT0]; simp [gI_sI]; rfl
    · rw [oC _ _ (by omega), ← hS0]; simp [gI_sA, gI_sI]; rfl
    · rw [nz _ _ (by omega), ← hT0]; simp [gI_sI]; rfl
    · rw [oC _ _ (by omega), ← hS0]; simp [gI_sA, gI_sI]
    · rw [nz _ _ (by omega), ← hT0]; simp [gI_sI]
    · obtain ⟨v1, v2, v3, v4, v5, v6⟩ := tb y hy
      rw [Nat.zero_add]
      exact ⟨kUs 0 y, v4, v5, row8 y hy, d3 y hy⟩
  have rr : ∀ k, k ≠ 5 → gR τ2 310 k = gR τ 310 k := fun k hk => m1.2.2 _ _ (by omega)
  obtain ⟨σ2, τ3, e1, e2, e3⟩ := X_hallL (L - 0) 0 σ1 τ2 0 0 0 false (Nat.le_refl _) (Nat.le_refl _) (hF.sm s1) a2 kT2 f2 (by rw [rr _ (by omega)]; exact r19) (by rw [rr _ (by omega)]; exact r21) (by rw [rr _ (by omega)]; exact r23) hHS BIG BIG (by unfold BIG; omega) (by unfold BIG; omega)
  have hF2 := (hF.sm s1).sm e1
  obtain ⟨q0', -⟩ := hF2.nx
  have rr3 : ∀ k, k ≠ 5 → gR τ3 310 k = gR τ 310 k := fun k hk => by rw [e2.2.2 _ _ (by omega), rr k hk]
  have pre : fX1_parse 7 σ = (wh (fun a : Int32 × Int32 × Mm => fX1_parse_l43 7 a.1 a.2.1 a.2.2) BIG (1, nI 0, σ1)).bind (Sum.elim (fun eo110 => some eo110) (fun eo111 => (fun so11 => fX1_parse_b79 7 so11) eo111)) := by
    unfold fX1_parse fX1_parse_w43
    rw [q1, Option.bind_some, l1, show ln (1000 + 2) = 5 by decide +kernel, if_pos (show cpB 0 0 (nI 5) 5 5 = true by decide), q0, Option.bind_some, hS0, a1, Option.bind_some]
    rfl
  have prm : fX10_readHall 310 τ = (wh (fun a : Int32 × Mm => fX10_readHall_l55 310 a.1 a.2) BIG (1, τ2)).bind (fun o15 => fX10_readHall_b111 310 o15) := by
    unfold fX10_readHall fX10_readHall_w55
    rw [r1, Option.bind_some, c1, Option.bind_some, hT0, d1, Option.bind_some]
  rcases e3 with ⟨e, g1, g2, g3, g4, g5⟩ | ⟨q, np, nr, ruled, g1, g2, g3, g4, g5, g6, g7⟩
  · refine ⟨σ2, τ3, s1.tr e1, m1.tr (mT e2), Or.inl ⟨e, ?_, g2, ?_, g4, g5⟩⟩
    · rw [pre, g1]; rfl
    · rw [prm, g3, Option.bind_some]
      unfold fX10_readHall_b111
      rw [g4, if_neg (fun z => (eqN1 (by omega)).mp z)]
  · have hq := g3.1
    have idC : sI σ2 1 2 (nI (sk b L q)) = σ2 := sI_id (by rw [g5]; exact g3.2.2.2.2.1)
    have idM : sI τ3 310 10 (nI (sk b L q)) = τ3 := sI_id (by rw [g5]; exact g4.2.2.2.2.2.2.2.1)
    obtain ⟨W, H, x, y, w1, w2, w3, w4, w5, w6, w7, w8, w9, w10⟩ := X_whole hF2 (by rw [rr3 _ (by omega)]; exact r19) (by rw [rr3 _ (by omega)]; exact r21) (by rw [rr3 _ (by omega)]; exact r23) g7
    have b104 : fX1_parse_b104 7 σ2 = some (0, sI σ2 1 3 (nI q)) := by
      unfold fX1_parse_b104
      rw [q0', Option.bind_some, c_wrong g3, bnd2_some, if_pos rfl]
    have b134 : fX10_readHall_b134 310 τ3 = some (sI τ3 310 11 (nI q)) := by
      unfold fX10_readHall_b134
      rw [m_fails g4 g6, bnd2_some]
    have eC : fX1_parse 7 σ = if sg b L q = -1 then (if x = 0 then some (0, sI σ2 1 3 (nI q)) else if y = 0 then some (0, sI σ2 1 3 (nI q)) else some (1, σ2)) else some (0, sI σ2 1 3 (nI q)) := by
      rw [pre, g1]
      show fX1_parse_b79 7 σ2 = _
      unfold fX1_parse_b79
      rw [q0', Option.bind_some, c_next g3, bnd2_some, idC, w7, b104, Option.bind_some]
      by_cases z : x = 0
      · rw [if_pos z, if_pos z]
      · rw [if_neg z, if_neg z, w8 z, Option.bind_some]
    have eM : fX10_readHall 310 τ = if sg b L q = -1 then (if ¬ x = 0 ∧ ¬ y = 0 then some τ3 else some (sI τ3 310 11 (nI q))) else some (sI τ3 310 11 (nI q)) := by
      rw [prm, g2, Option.bind_some]
      unfold fX10_readHall_b111
      rw [g6, if_pos rfl, m_look g4, bnd2_some, idM, w9, b134, Option.bind_some]
      by_cases z : ¬ x = 0 ∧ ¬ y = 0
      · rw [if_pos z, if_pos z, if_neg z1]
      · rw [if_neg z, if_neg z, if_pos rfl]
    have bad : fX1_parse 7 σ = some (0, sI σ2 1 3 (nI q)) → fX10_readHall 310 τ = some (sI τ3 310 11 (nI q)) → _ := fun z1 z2 =>
      (⟨sI σ2 1 3 (nI q), sI τ3 310 11 (nI q), (s1.tr e1).sI rfl, (m1.tr (mT e2)).sI rfl, Or.inl ⟨q, z1, by rw [gI_sI, if_pos ⟨rfl, rfl⟩], z2, by rw [gI_sI, if_pos ⟨rfl, rfl⟩], by omega⟩⟩ : ∃ σ' τ', Sm tHC σ σ' ∧ Sm (fun c k => tHM c k || tMs c k) τ τ' ∧ ((∃ e, fX1_parse 7 σ = some (0, σ') ∧ gI σ' 1 3 = nI e ∧ fX10_readHall 310 τ = some τ' ∧ gI τ' 310 11 = nI e ∧ e ≤ 240) ∨ (∃ np nr ruled W H, fX1_parse 7 σ = some (1, σ') ∧ fX10_readHall 310 τ = some τ' ∧ gI τ' 310 11 = -1 ∧ HS σ' τ' np nr ruled ∧ gI σ' 8 0 = nI W ∧ gI σ' 8 1 = nI H ∧ 1 ≤ W ∧ W ≤ 6 ∧ 1 ≤ H ∧ H ≤ 5 ∧ WhOK σ' np nr W H)))
    by_cases z : sg b L q = -1
    · rw [if_pos z] at eC eM
      by_cases zx : x = 0
      · rw [if_pos zx] at eC
        rw [if_neg (fun u => u.1 zx)] at eM
        exact bad eC eM
      · by_cases zy : y = 0
        · rw [if_neg zx, if_pos zy] at eC
          rw [if_neg (fun u => u.2 zy)] at eM
          exact bad eC eM
        · rw [if_neg zx, if_neg zy] at eC
          rw [if_pos ⟨zx, zy⟩] at eM
          exact ⟨σ2, τ3, s1.tr e1, m1.tr (mT e2), Or.inr ⟨np, nr, ruled, W, H, eC, eM, g6, g7, w1, w2, w3, w4, w5, w6, w10 zx zy⟩⟩
    · rw [if_neg z] at eC eM
      exact bad eC eM
end HallW
