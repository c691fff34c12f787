/-! plans: a step told, tried, done -/
section PStep
variable {σ τ : Mm} {D np nr W H S acts nl t j n b m : Nat} {ru pg rd w : Nat → Int32} {F : Nat → LF} {lw : Option LF} {jl pw : Nat → Nat → Int32} {κ ρ θ : Nat → Int32} {z : Bool}
def kd (κ : Int32) : Int32 := if κ = 3 then 4 else κ
def PC1 (σ : Mm) (j n : Nat) (κ ρ θ : Nat → Int32) : Prop := gI σ (69 + 4 * j) 4 = nI n ∧ ∀ i, i < n → gI σ (70 + 4 * j) i = κ i ∧ gI σ (71 + 4 * j) i = ρ i ∧ gI σ (72 + 4 * j) i = θ i
def PM1 (τ : Mm) (j n : Nat) (κ ρ θ : Nat → Int32) : Prop := gI τ 322 j = nI n ∧ ∀ i, i < n → gI τ 321 (48 * j + 3 * i) = κ i ∧ gI τ 321 (48 * j + 3 * i + 1) = ρ i ∧ gI τ 321 (48 * j + 3 * i + 2) = θ i
theorem PLN.get {npl : Nat} (h : PLN σ npl) (hj : j < npl) : ∃ n κ ρ θ, 1 ≤ n ∧ n ≤ 16 ∧ (∀ i, i < n → StepOK (κ i) (ρ i) (θ i)) ∧ PC1 σ j n κ ρ θ ∧ PM1 σ j n κ ρ θ := by
  obtain ⟨n, h1, h2, h3, h4, h5⟩ := h.2.2.2 j hj
  exact ⟨n, gI σ (70 + 4 * j), gI σ (71 + 4 * j), gI σ (72 + 4 * j), h1, h2, fun i hi => (h5 i hi).1, ⟨h3, fun i _ => ⟨rfl, rfl, rfl⟩⟩, h4, fun i hi => (h5 i hi).2⟩
theorem PC1.sm {T : Nat → Nat → Bool} {σ' : Mm} (h : PC1 σ j n κ ρ θ) (hj : j < 5) (s : Sm T σ σ') (hs : ∀ c k, 69 ≤ c → c ≤ 88 → T c k = false) : PC1 σ' j n κ ρ θ :=
  ⟨by rw [s.1 _ _ (hs _ _ (by omega) (by omega))]; exact h.1, fun i hi => by
    rw [s.1 _ _ (hs _ _ (by omega) (by omega)), s.1 _ _ (hs _ _ (by omega) (by omega)), s.1 _ _ (hs _ _ (by omega) (by omega))]; exact h.2 i hi⟩
theorem PM1.sm {T : Nat → Nat → Bool} {τ' : Mm} (h : PM1 τ j n κ ρ θ) (s : Sm T τ τ') (hs : ∀ k, T 321 k = false ∧ T 322 k = false) : PM1 τ' j n κ ρ θ :=
  ⟨by rw [s.1 _ _ (hs _).2]; exact h.1, fun i hi => by
    rw [s.1 _ _ (hs _).1, s.1 _ _ (hs _).1, s.1 _ _ (hs _).1]; exact h.2 i hi⟩
theorem c_hasPlan {npl : Nat} (hF : RF σ) (h : gI σ 0 15 = nI npl) (h4 : npl ≤ 4) (hj : j < npl) : fX9_hasPlan 0 (nI j) σ = some 1 := by
  have l68 : ln 68 = 5 := by decide +kernel
  unfold fX9_hasPlan
  rw [if_neg (show ¬ nI j < 0 from fun z => absurd ((ltT (b := 0) (by omega) (by omega)).mp z) (by omega)), h, if_neg (show ¬ nI npl ≤ nI j from fun z => absurd ((leT (by omega) (by omega)).mp z) (by omega)), hF.f0.2.2.2.2.2.2.1, Option.bind_some, l68, if_neg (show ¬ nI 5 ≤ nI j from fun z => absurd ((leT (by omega) (by omega)).mp z) (by omega))]
theorem c_hasPlan_out {npl : Nat} {x : Int32} (h : gI σ 0 15 = nI npl) (h4 : npl ≤ 4) (hx : ¬ ∃ j, j < npl ∧ x = nI j) : fX9_hasPlan 0 x σ = some 0 := by
  unfold fX9_hasPlan
  rcases i32_out (by omega) hx with h1 | ⟨h1, h2⟩
  · rw [if_pos h1]
  · rw [if_neg h1, h, if_pos h2]
theorem m_isPlan {npl : Nat} (h : gI τ 310 31 = nI npl) (h4 : npl ≤ 4) (hj : j < npl) : fX10_isPlan 310 (nI j) τ = some 1 := by
  unfold fX10_isPlan
  rw [if_neg (show ¬ nI j < 0 from fun z => absurd ((ltT (b := 0) (by omega) (by omega)).mp z) (by omega)), h, if_neg (show ¬ nI npl ≤ nI j from fun z => absurd ((leT (by omega) (by omega)).mp z) (by omega))]
theorem m_isPlan_out {npl : Nat} {x : Int32} (h : gI τ 310 31 = nI npl) (h4 : npl ≤ 4) (hx : ¬ ∃ j, j < npl ∧ x = nI j) : fX10_isPlan 310 x τ = some 0 := by
  unfold fX10_isPlan
  rcases i32_out (by omega) hx with h1 | ⟨h1, h2⟩
  · rw [if_pos h1]
  · rw [if_neg h1, h, if_pos h2]
theorem c_hasStep {i : Nat} (h : gI σ (69 + 4 * j) 4 = nI n) (h16 : n ≤ 16) (hi : i < n) : fX5_hasStep (69 + 4 * j) (nI i) σ = some 1 := by
  unfold fX5_hasStep
  rw [if_neg (show ¬ nI i < 0 from fun z => absurd ((ltT (b := 0) (by omega) (by omega)).mp z) (by omega)), h, if_neg (show ¬ nI n ≤ nI i from fun z => absurd ((leT (by omega) (by omega)).mp z) (by omega)), if_neg (show ¬ (16 : Int32) ≤ nI i from fun z => absurd ((leT (a := 16) (by omega) (by omega)).mp z) (by omega))]
theorem c_hasStep_out {x : Int32} (h : gI σ (69 + 4 * j) 4 = nI n) (h16 : n ≤ 16) (hx : ¬ ∃ i, i < n ∧ x = nI i) : fX5_hasStep (69 + 4 * j) x σ = some 0 := by
  unfold fX5_hasStep
  rcases i32_out (by omega) hx with h1 | ⟨h1, h2⟩
  · rw [if_pos h1]
  · rw [if_neg h1, h, if_pos h2]
theorem c_actOf {i : Nat} (hF : RF σ) (hj : j < 5) (h : PC1 σ j n κ ρ θ) (h16 : n ≤ 16) (hi : i < n) : fX5_actOf (69 + 4 * j) (nI i) σ = some (kd (κ i)) ∧ fX5_readerOf (69 + 4 * j) (nI i) σ = some (ρ i) ∧ fX5_targetOf (69 + 4 * j) (nI i) σ = some (θ i) := by
  obtain ⟨-, -, r1, r2, r3⟩ := hF.plan hj
  obtain ⟨l1, l2, l3⟩ := ln_plan j hj
  obtain ⟨a1, a2, a3⟩ := h.2 i hi
  have x : ixB (nI i) 16 = true := ixT (by omega) (by omega)
  have cc : Int32.toNatClampNeg (nI i) = i := clT (by omega)
  unfold fX5_actOf fX5_readerOf fX5_targetOf kd
  simp only [c_hasStep h.1 h16 hi, Option.bind_some, if_neg z1, r1, r2, r3, l1, l2, l3, x, if_true, cc, a1, a2, a3]
  refine ⟨?_, trivial, trivial⟩
  by_cases q : κ i = 3
  · rw [if_pos q, if_pos q]
  · rw [if_neg q, if_neg q]
theorem idx3 (hj : j < 4) {i : Nat} (hi : i < 16) : (3 : Int32) * (16 * nI j + nI i) = nI (48 * j + 3 * i) := by
  rw [show (3 : Int32) = nI 3 from rfl, show (16 : Int32) = nI 16 from rfl, pk_mul, nI_add, pk_mul]; exact congrArg nI (by omega)
theorem X_stepCall (h : CMz z np nr W H ru pg rd nl F lw D w S jl acts pw σ) (hz0 : z = true ∨ np = 0) (e : EX np nr nl F D σ) (hD : D ≤ 60 * t) (x y u : Int32) : STEV t σ (fX9_step 0 x y u σ) (fX10_step 310 x y u σ) := by
  obtain ⟨npl, e7⟩ := e.2.2.2.2.1
  have n4 := e7.1
  have l68 : ln 68 = 5 := by decide +kernel
  have p31 : gI (sI σ 310 0 0) 310 31 = nI npl := by rw [gI_sI, if_neg (by omega)]; exact e7.2.2.1
  have r24 : gR σ 310 24 = some 321 := h.mm.1.hm.1.2.2.2.2.2.2.2.2.2.2.2.2.1
  have r25 : gR σ 310 25 = some 322 := h.mm.1.hm.1.2.2.2.2.2.2.2.2.2.2.2.2.2.1
  by_cases hx : ∃ j, j < npl ∧ x = nI j
  · obtain ⟨j, hj, rfl⟩ := hx
    obtain ⟨n, κ, ρ, θ, n1, n16, ok, p1, p2⟩ := e7.get hj
    have p2' := p2.sm (Sm.rf.sI (S := sT) rfl : Sm sT σ (sI σ 310 0 0)) (fun k => ⟨rfl, rfl⟩)
    obtain ⟨q0, q1, q2, q3, q4⟩ := h.rf.plan (show j < 5 by omega)
    obtain ⟨l1, l2, l3⟩ := ln_plan j (by omega)
    have cS : fX9_step 0 (nI j) y u σ = fX5_tellStep (69 + 4 * j) y u σ := by
      unfold fX9_step
      rw [c_hasPlan h.rf e7.2.1 n4 hj, Option.bind_some, if_neg z1, h.rf.f0.2.2.2.2.2.2.1, Option.bind_some, l68, if_pos (ixT (by omega) (by omega)), clT (by omega), q0, Option.bind_some]
      cases fX5_tellStep (69 + 4 * j) y u σ <;> rfl
    have e1 : (nI n : Int32) - 1 = nI (n - 1) := by rw [show (1 : Int32) = nI 1 from rfl, pk_sub (by omega)]
    have mS : fX10_step 310 (nI j) y u σ = (fX10_isIn (Int32.toInt64 y) 0 (lN (n - 1)) (sI σ 310 0 0)).bind fun vk5 => if vk5 = 0 then fX10_step_b61 (sI σ 310 0 0) else (fX10_isIn (Int32.toInt64 u) 0 2 (sI σ 310 0 0)).bind fun vk7 => if vk7 = 0 then fX10_step_b61 (sI σ 310 0 0) else (gR σ 310 24).bind fun r9 => if ixB ((3 * ((16 * nI j) + y)) + u) (ln r9) = true then some ((gI (sI σ 310 0 0) r9 (Int32.toNatClampNeg ((3 * ((16 * nI j) + y)) + u))), (sI σ 310 0 0)) else none := by
      unfold fX10_step
      rw [m_isPlan p31 n4 hj, Option.bind_some, if_neg z1, r25, Option.bind_some, ln321.2, if_pos (ixT (by omega) (by omega)), clT (by omega), p2'.1, e1]
      have := nI_l (n := n - 1) (by omega)
      rw [this]
    rw [cS, mS]
    by_cases hy : ∃ i, i < n ∧ y = nI i
    · obtain ⟨i, hi, rfl⟩ := hy
      have h1 : fX10_isIn (Int32.toInt64 (nI i)) 0 (lN (n - 1)) (sI σ 310 0 0) = some 1 := isInT (a := 0) (b := n - 1) ⟨i, by omega, by omega, rfl⟩ (by omega)
      obtain ⟨a1, a2, a3⟩ := p1.2 i hi
      obtain ⟨b1, b2, b3⟩ := p2'.2 i hi
      have xi : ixB (nI i) 16 = true := ixT (by omega) (by omega)
      have ci : Int32.toNatClampNeg (nI i) = i := clT (by omega)
      rw [h1, Option.bind_some, if_neg z1]
      unfold fX5_tellStep
      rw [c_hasStep p1.1 n16 hi, Option.bind_some, if_neg z1, idx3 (by omega) (by omega)]
      by_cases hz : ∃ k, 0 ≤ k ∧ k ≤ 2 ∧ u = nI k
      · have h2 : fX10_isIn (Int32.toInt64 u) 0 2 (sI σ 310 0 0) = some 1 := isInT (a := 0) (b := 2) hz (by omega)
        obtain ⟨k, -, hk, rfl⟩ := hz
        have ck : Int32.toNatClampNeg (nI (48 * j + 3 * i + k)) = 48 * j + 3 * i + k := clT (by omega)
        rw [h2, Option.bind_some, if_neg z1, r24, Option.bind_some, ln321.1, nI_add, if_pos (ixT (by omega) (by omega)), ck]
        rcases (show k = 0 ∨ k = 1 ∨ k = 2 by omega) with rfl | rfl | rfl
        · rw [if_pos (show nI 0 = 0 from rfl), q2, Option.bind_some, l1, if_pos xi, ci, a1, Nat.add_zero, b1]
          exact STEV.non h hz0 e hD rfl rfl
        · rw [if_neg (show ¬ nI 1 = 0 by decide), if_pos (show nI 1 = 1 from rfl), q3, Option.bind_some, l2, if_pos xi, ci, a2, b2]
          exact STEV.non h hz0 e hD rfl rfl
        · rw [if_neg (show ¬ nI 2 = 0 by decide), if_neg (show ¬ nI 2 = 1 by decide), if_pos (show nI 2 = 2 from rfl), q4, Option.bind_some, l3, if_pos xi, ci, a3, b3]
          exact STEV.non h hz0 e hD rfl rfl
      · have h2 : fX10_isIn (Int32.toInt64 u) 0 2 (sI σ 310 0 0) = some 0 := isInF (a := 0) (b := 2) hz (by omega) (by omega)
        rw [h2, Option.bind_some, if_pos rfl, if_neg (show ¬ u = 0 from fun z' => hz ⟨0, by omega, by omega, z'⟩), if_neg (show ¬ u = 1 from fun z' => hz ⟨1, by omega, by omega, z'⟩), if_neg (show ¬ u = 2 from fun z' => hz ⟨2, by omega, by omega, z'⟩)]
        exact STEV.non h hz0 e hD rfl rfl
    · have h1 : fX10_isIn (Int32.toInt64 y) 0 (lN (n - 1)) (sI σ 310 0 0) = some 0 := isInF (a := 0) (b := n - 1) (fun ⟨i, _, h2, h3⟩ => hy ⟨i, by omega, h3⟩) (by omega) (by omega)
      rw [h1, Option.bind_some, if_pos rfl]
      unfold fX5_tellStep
      rw [c_hasStep_out p1.1 n16 hy, Option.bind_some, if_pos rfl]
      exact STEV.non h hz0 e hD rfl rfl
  · refine STEV.non (v := -1000000) h hz0 e hD ?_ ?_
    · unfold fX9_step
      rw [c_hasPlan_out e7.2.1 n4 hx, Option.bind_some, if_pos rfl]
    · unfold fX10_step
      rw [m_isPlan_out p31 n4 hx, Option.bind_some, if_pos rfl]
      rfl
end PStep
