/-! plans: the whole text -/
section PlanL
variable {σ τ : Mm} {b : Nat → Nat} {L p : Nat}
theorem c_goOver (h : TC σ b L p) (x : Int32) : fX7_goOver 1 x σ = if sg b L p = x then some (1, sI σ 1 2 (nI (sk b L p + 1))) else some (0, sI σ 1 2 (nI (sk b L p))) := by
  unfold fX7_goOver
  rw [c_next h, bnd2_some, (h.cur (sk_bd (b := b) h.1).2.1).2.2.2.2.1, nI_1, sI_sI]
def Rows (j n : Nat) (σ τ : Mm) : Prop := ∀ i, i < n → StepOK (gI σ (70 + 4 * j) i) (gI σ (71 + 4 * j) i) (gI σ (72 + 4 * j) i) ∧ gI τ 321 (192 + 3 * i) = gI σ (70 + 4 * j) i ∧ gI τ 321 (193 + 3 * i) = gI σ (71 + 4 * j) i ∧ gI τ 321 (194 + 3 * i) = gI σ (72 + 4 * j) i
theorem Rows.cur {j n : Nat} {x y : Int32} (h : Rows j n σ τ) : Rows j n (sI σ 1 2 x) (sI τ 310 10 y) := by
  intro i hi
  have := h i hi
  simp only [gI_sI]
  rw [if_neg (by omega), if_neg (by omega), if_neg (by omega), if_neg (by omega), if_neg (by omega), if_neg (by omega)]
  exact this
theorem Rows.curM {j n : Nat} {y : Int32} (h : Rows j n σ τ) : Rows j n σ (sI τ 310 10 y) := by
  intro i hi
  have := h i hi
  simp only [gI_sI]
  rw [if_neg (by omega), if_neg (by omega), if_neg (by omega)]
  exact this
theorem X_planL {j : Nat} (hj : j < 5) : ∀ (d m : Nat) (σ τ : Mm) (p : Nat), m + d = 16 → 1 ≤ d → RF σ → TC σ b L p → TM τ 311 0 b L p → gI τ 310 11 = -1 → gI σ (69 + 4 * j) 4 = nI m → gR τ 310 24 = some 321 → Rows j m σ τ → ∀ K K', d + 1 < K → d + 1 < K' →
    ∃ σ' τ', Sm (tPc j) σ σ' ∧ Sm tPm τ τ' ∧
    ((∃ e, wh (fun a : Int32 × Int32 × Mm => fX5_parse_l16 (69 + 4 * j) a.1 a.2.1 a.2.2) K (1, nI m, σ) = some (Sum.inl (0, σ')) ∧ gI σ' 1 3 = nI e ∧ wh (fun a : Int32 × Int32 × Mm => fX10_readPlan_l17 310 a.1 a.2.1 a.2.2) K' (nI m, 1, τ) = some (Sum.inl τ') ∧ gI τ' 310 11 = nI e ∧ e ≤ 240) ∨
     (∃ n q q', 1 ≤ n ∧ n ≤ 16 ∧ wh (fun a : Int32 × Int32 × Mm => fX5_parse_l16 (69 + 4 * j) a.1 a.2.1 a.2.2) K (1, nI m, σ) = some (Sum.inr σ') ∧ wh (fun a : Int32 × Int32 × Mm => fX10_readPlan_l17 310 a.1 a.2.1 a.2.2) K' (nI m, 1, τ) = some (Sum.inr (Sum.inl (nI n, τ'))) ∧ TC σ' b L q ∧ TM τ' 311 0 b L q' ∧ sk b L q' = sk b L q ∧ gI τ' 310 11 = -1 ∧ gI σ' (69 + 4 * j) 4 = nI n ∧ Rows j n σ' τ') ∨
     (∃ q, wh (fun a : Int32 × Int32 × Mm => fX5_parse_l16 (69 + 4 * j) a.1 a.2.1 a.2.2) K (1, nI m, σ) = some (Sum.inr σ') ∧ wh (fun a : Int32 × Int32 × Mm => fX10_readPlan_l17 310 a.1 a.2.1 a.2.2) K' (nI m, 1, τ) = some (Sum.inr (Sum.inr τ')) ∧ TC σ' b L q ∧ TM τ' 311 0 b L (sk b L q) ∧ gI τ' 310 11 = -1 ∧ ¬ sg b L q = -1)) := by
  intro d
  induction d with
  | zero => intros; omega
  | succ d ih =>
    intro m σ τ p hm _ hF h k hf hz r24 hR K K' hK hK'
    obtain ⟨K, rfl⟩ : ∃ x, K = x + 2 := ⟨K - 2, by omega⟩
    obtain ⟨K', rfl⟩ : ∃ x, K' = x + 2 := ⟨K' - 2, by omega⟩
    have hm16 : m < 16 := by omega
    have cStep : fX5_parse_l16 (69 + 4 * j) 1 (nI m) σ = bnd2 (fX5_stepText (69 + 4 * j) σ) fun vk5 sk5 => if vk5 = 0 then some (Sum.inr (Sum.inl (0, sk5))) else if 16 ≤ (gI sk5 (69 + 4 * j) 4) then fX5_parse_b60 (69 + 4 * j) (nI m) sk5 else (gR sk5 (69 + 4 * j) 0).bind fun r8 => bnd2 (fX7_goOver r8 59 sk5) fun vk9 sk9 => if vk9 = 0 then fX5_parse_b60 (69 + 4 * j) (nI m) sk9 else fX5_parse_b61 (69 + 4 * j) (nI m) 1 sk9 := by
      unfold fX5_parse_l16
      rw [if_neg z1, if_neg (show ¬ (16 : Int32) ≤ nI m from fun z => absurd ((leT (a := 16) (by omega) (by omega)).mp z) (by omega))]
    have mStep : fX10_readPlan_l17 310 (nI m) 1 τ = (fX10_readStep 310 (3 * (64 + nI m)) τ).bind fun sk4 => if (gI sk4 310 11) = (-1) then bnd2 (fX10_look 310 sk4) fun vk6 sk6 => if vk6 = 59 then fX10_readPlan_b57 310 (nI (m + 1)) 1 sk6 else fX10_readPlan_b57 310 (nI (m + 1)) 0 sk6 else some (Sum.inr (Sum.inl sk4)) := by
      unfold fX10_readPlan_l17
      rw [if_neg z1, nI_1]
    rcases X_step hj hm16 hF h k hf hz r24 with ⟨e, σ1, τ1, a1, a2, a3, a4, a5, a6, a7⟩ | ⟨q, σ1, τ1, b1, b2, b3, b4, b5, b6, b7, b8, b9, b10, b11, b12, b13, b14⟩
    · refine ⟨σ1, τ1, a5, a6, Or.inl ⟨e, ?_, a2, ?_, a4, a7⟩⟩
      · refine whR ?_
        dsimp only
        rw [cStep, a1, bnd2_some, if_pos rfl]
      · refine whR ?_
        dsimp only
        rw [mStep, a3, Option.bind_some, a4, if_neg (fun z => (eqN1 (by omega)).mp z)]
    · have hF1 := hF.sm b8
      obtain ⟨-, r0, -⟩ := hF1.plan hj
      obtain ⟨s1, s2, s3⟩ := sk_bd (b := b) b6.1
      have hR1 : Rows j (m + 1) σ1 τ1 := by
        intro i hi
        by_cases z : i = m
        · subst z
          exact ⟨b11, b12.1, b12.2.1, b12.2.2⟩
        · obtain ⟨u1, u2, u3⟩ := b13 i (by omega)
          rw [u1, u2, u3, b14 _ (by omega), b14 _ (by omega), b14 _ (by omega)]
          exact hR i (by omega)
      have r24' : gR τ1 310 24 = some 321 := by rw [b9.2.2 _ _ (by omega)]; exact r24
      have mL : bnd2 (fX10_look 310 τ1) (fun vk6 sk6 => if vk6 = 59 then fX10_readPlan_b57 310 (nI (m + 1)) 1 sk6 else fX10_readPlan_b57 310 (nI (m + 1)) 0 sk6) = if sg b L q = 59 then fX10_readPlan_b57 310 (nI (m + 1)) 1 (sI τ1 310 10 (nI (sk b L q))) else fX10_readPlan_b57 310 (nI (m + 1)) 0 (sI τ1 310 10 (nI (sk b L q))) := by
        rw [m_look b7, bnd2_some]
      have hM1 := b7.cur s2
      have hC1 := b6.cur s2
      have cm1 : Sm (tPc j) σ (sI σ1 1 2 (nI (sk b L q))) := b8.sI rfl
      have mm1 : Sm tPm τ (sI τ1 310 10 (nI (sk b L q))) := b9.sI rfl
      have f1 : gI (sI τ1 310 10 (nI (sk b L q))) 310 11 = -1 := by rw [gI_sI, if_neg (by omega)]; exact b5
      by_cases q15 : m + 1 = 16
      · have cS : fX5_parse_l16 (69 + 4 * j) 1 (nI m) σ = some (Sum.inl (0, nI (m + 1), σ1)) := by
          rw [cStep, b3, bnd2_some, if_neg z1, b10, q15, if_pos (show (16 : Int32) ≤ nI 16 from Int32.le_refl _)]
          unfold fX5_parse_b60 fX5_parse_b61
          rw [nI_1, q15]
        have cE : wh (fun a : Int32 × Int32 × Mm => fX5_parse_l16 (69 + 4 * j) a.1 a.2.1 a.2.2) (K + 2) (1, nI m, σ) = some (Sum.inr σ1) := by
          rw [show K + 2 = (K + 1) + 1 from rfl, whL (a' := (0, nI (m + 1), σ1)) cS]
          refine whR ?_
          dsimp only
          unfold fX5_parse_l16
          rw [if_pos rfl]
        by_cases q59 : sg b L q = 59
        · have mS : fX10_readPlan_l17 310 (nI m) 1 τ = some (Sum.inr (Sum.inr (Sum.inr (sI τ1 310 10 (nI (sk b L q)))))) := by
            rw [mStep, b4, Option.bind_some, b5, if_pos rfl, mL, if_pos q59]
            unfold fX10_readPlan_b57
            rw [if_neg z1, q15, if_pos (show nI 16 = 16 from rfl)]
          exact ⟨σ1, _, b8, mm1, Or.inr (Or.inr ⟨q, cE, whR mS, b6, hM1, f1, by rw [q59]; decide⟩)⟩
        · have mS : fX10_readPlan_l17 310 (nI m) 1 τ = some (Sum.inl (nI (m + 1), 0, sI τ1 310 10 (nI (sk b L q)))) := by
            rw [mStep, b4, Option.bind_some, b5, if_pos rfl, mL, if_neg q59]
            unfold fX10_readPlan_b57 fX10_readPlan_b74
            rw [if_pos rfl, if_pos rfl]
          refine ⟨σ1, sI τ1 310 10 (nI (sk b L q)), b8, mm1, Or.inr (Or.inl ⟨m + 1, q, sk b L q, by omega, by omega, cE, ?_, b6, hM1, sk_sk b6.1, f1, b10, hR1.curM⟩)⟩
          rw [show K' + 2 = (K' + 1) + 1 from rfl, whL (a' := (nI (m + 1), 0, sI τ1 310 10 (nI (sk b L q)))) mS]
          refine whR ?_
          dsimp only
          unfold fX10_readPlan_l17
          rw [if_pos rfl]
      · have n16 : ¬ (16 : Int32) ≤ nI (m + 1) := fun z => absurd ((leT (a := 16) (by omega) (by omega)).mp z) (by omega)
        by_cases q59 : sg b L q = 59
        · have hlt := sg_lt (x := 59) (by omega) q59
          have cS : fX5_parse_l16 (69 + 4 * j) 1 (nI m) σ = some (Sum.inl (1, nI (m + 1), sI σ1 1 2 (nI (sk b L q + 1)))) := by
            rw [cStep, b3, bnd2_some, if_neg z1, b10, if_neg n16, r0, Option.bind_some, c_goOver b6, if_pos q59, bnd2_some, if_neg z1]
            unfold fX5_parse_b61
            rw [nI_1]
          have mS : fX10_readPlan_l17 310 (nI m) 1 τ = some (Sum.inl (nI (m + 1), 1, sI τ1 310 10 (nI (sk b L q + 1)))) := by
            rw [mStep, b4, Option.bind_some, b5, if_pos rfl, mL, if_pos q59]
            unfold fX10_readPlan_b57 fX10_readPlan_b74
            rw [if_neg z1, if_neg (show ¬ nI (m + 1) = 16 from fun z => q15 ((eqT (b := 16) (by omega) (by omega)).mp z)), if_neg z1, hM1.2.2.2.2.2.2.2.1, nI_1, sI_sI]
          have sc2 : Sm (tPc j) σ (sI σ1 1 2 (nI (sk b L q + 1))) := b8.sI rfl
          have sm2 : Sm tPm τ (sI τ1 310 10 (nI (sk b L q + 1))) := b9.sI rfl
          obtain ⟨σ', τ', c1, c2, c3⟩ := ih (m + 1) (sI σ1 1 2 (nI (sk b L q + 1))) (sI τ1 310 10 (nI (sk b L q + 1))) (sk b L q + 1) (by omega) (by omega) (hF.sm sc2) (b6.cur (by omega)) (b7.cur (by omega)) (by rw [gI_sI, if_neg (by omega)]; exact b5) (by rw [gI_sI, if_neg (by omega)]; exact b10) r24' hR1.cur (K + 1) (K' + 1) (by omega) (by omega)
          have eC : wh (fun a : Int32 × Int32 × Mm => fX5_parse_l16 (69 + 4 * j) a.1 a.2.1 a.2.2) (K + 2) (1, nI m, σ) = wh (fun a : Int32 × Int32 × Mm => fX5_parse_l16 (69 + 4 * j) a.1 a.2.1 a.2.2) (K + 1) (1, nI (m + 1), sI σ1 1 2 (nI (sk b L q + 1))) := whL cS
          have eM : wh (fun a : Int32 × Int32 × Mm => fX10_readPlan_l17 310 a.1 a.2.1 a.2.2) (K' + 2) (nI m, 1, τ) = wh (fun a : Int32 × Int32 × Mm => fX10_readPlan_l17 310 a.1 a.2.1 a.2.2) (K' + 1) (nI (m + 1), 1, sI τ1 310 10 (nI (sk b L q + 1))) := whL mS
          rw [eC, eM]
          exact ⟨σ', τ', sc2.tr c1, sm2.tr c2, c3⟩
        · have cS : fX5_parse_l16 (69 + 4 * j) 1 (nI m) σ = some (Sum.inl (0, nI (m + 1), sI σ1 1 2 (nI (sk b L q)))) := by
            rw [cStep, b3, bnd2_some, if_neg z1, b10, if_neg n16, r0, Option.bind_some, c_goOver b6, if_neg q59, bnd2_some, if_pos rfl]
            unfold fX5_parse_b60 fX5_parse_b61
            rw [nI_1]
          have mS : fX10_readPlan_l17 310 (nI m) 1 τ = some (Sum.inl (nI (m + 1), 0, sI τ1 310 10 (nI (sk b L q)))) := by
            rw [mStep, b4, Option.bind_some, b5, if_pos rfl, mL, if_neg q59]
            unfold fX10_readPlan_b57 fX10_readPlan_b74
            rw [if_pos rfl, if_pos rfl]
          refine ⟨sI σ1 1 2 (nI (sk b L q)), sI τ1 310 10 (nI (sk b L q)), cm1, mm1, Or.inr (Or.inl ⟨m + 1, sk b L q, sk b L q, by omega, by omega, ?_, ?_, hC1, hM1, rfl, f1, by rw [gI_sI, if_neg (by omega)]; exact b10, hR1.cur⟩)⟩
          · rw [show K + 2 = (K + 1) + 1 from rfl, whL (a' := (0, nI (m + 1), sI σ1 1 2 (nI (sk b L q)))) cS]
            refine whR ?_
            dsimp only
            unfold fX5_parse_l16
            rw [if_pos rfl]
          · rw [show K' + 2 = (K' + 1) + 1 from rfl, whL (a' := (nI (m + 1), 0, sI τ1 310 10 (nI (sk b L q)))) mS]
            refine whR ?_
            dsimp only
            unfold fX10_readPlan_l17
            rw [if_pos rfl]
/-- the tapes: the class's and the model's hold the same -/
def TP (σ : Mm) (b : Nat → Nat) (L : Nat) : Prop := L ≤ 240 ∧ gI σ 1 1 = nI L ∧ gI σ 310 6 = nI L ∧ ∀ k, k < L → 1 ≤ b k ∧ b k < 256 ∧ gI σ 2 k = nI (b k) ∧ gI σ 311 k = byI (nI (b k))
def tMs (c k : Nat) : Bool := c == 310 && decide (8 ≤ k) && decide (k ≤ 11)
theorem m_starts (r1 : gR τ 310 1 = some 311) (hL : L ≤ 240) (h6 : gI τ 310 6 = nI L) (hb : ∀ k, k < L → b k < 256 ∧ gI τ 311 k = byI (nI (b k))) : ∃ τ', fX10_starts 310 311 0 (gI τ 310 6) τ = some τ' ∧ TM τ' 311 0 b L 0 ∧ gI τ' 310 11 = -1 ∧ Sm tMs τ τ' := by
  unfold fX10_starts
  refine ⟨_, rfl, ⟨by omega, hL, ?_, Or.inl rfl, by rw [ln2.2.1]; omega, ?_, ?_, ?_, fun k hk => ⟨(hb k hk).1, ?_⟩⟩, ?_, ?_⟩
  · rfl
  · simp [gI_sI]; rfl
  · simp only [gI_sI]; simp; exact h6
  · simp [gI_sI]; rfl
  · simp only [gI_sI]; rw [if_neg (by omega), if_neg (by omega), if_neg (by omega), if_neg (by omega), gI_sR, Nat.zero_add]; exact (hb k hk).2
  · simp [gI_sI]
  · have s0 : Sm tMs τ (sR τ 310 5 (some 311)) := ⟨fun _ _ _ => rfl, fun _ _ _ => rfl, fun c k hc => by rw [gR_sR, if_neg hc]⟩
    exact (((s0.sI rfl).sI rfl).sI rfl).sI rfl
theorem c_rewind (h2 : gR σ 1 0 = some 2) (hL : L ≤ 240) (h1 : gI σ 1 1 = nI L) (hb : ∀ k, k < L → b k < 256 ∧ gI σ 2 k = nI (b k)) : ∃ σ', fX7_rewind 1 σ = some σ' ∧ TC σ' b L 0 ∧ Sm tA σ σ' := by
  unfold fX7_rewind
  refine ⟨_, rfl, ⟨by omega, hL, h2, ?_, ?_, fun k hk => ⟨(hb k hk).1, ?_⟩⟩, (Sm.rf.sI rfl).sI rfl⟩
  · simp only [gI_sI]; rw [if_neg (by omega), if_neg (by omega)]; exact h1
  · rw [gI_sI, if_neg (by omega), gI_sI, if_pos ⟨rfl, rfl⟩]; rfl
  · simp only [gI_sI]; rw [if_neg (by omega), if_neg (by omega)]; exact (hb k hk).2
theorem X_plan {j : Nat} (hj : j < 5) (hF : RF σ) (hL : L ≤ 240) (hb : ∀ k, k < L → b k < 256 ∧ gI σ 2 k = nI (b k)) (h1 : gI σ 1 1 = nI L) (r1 : gR τ 310 1 = some 311) (r24 : gR τ 310 24 = some 321) (r25 : gR τ 310 25 = some 322) (h6 : gI τ 310 6 = nI L) (hb' : ∀ k, k < L → b k < 256 ∧ gI τ 311 k = byI (nI (b k))) :
    ∃ σ' τ', Sm (tPc j) σ σ' ∧ Sm (fun c k => tPm c k || tMs c k) τ τ' ∧
    ((∃ e, fX5_parse (69 + 4 * j) σ = some (0, σ') ∧ gI σ' 1 3 = nI e ∧ fX10_readPlan 310 τ = some τ' ∧ gI τ' 310 11 = nI e ∧ e ≤ 240) ∨
     (∃ n, 1 ≤ n ∧ n ≤ 16 ∧ fX5_parse (69 + 4 * j) σ = some (1, σ') ∧ fX10_readPlan 310 τ = some τ' ∧ gI τ' 310 11 = -1 ∧ gI σ' (69 + 4 * j) 4 = nI n ∧ gI τ' 322 4 = nI n ∧ Rows j n σ' τ')) := by
  obtain ⟨-, r0, -⟩ := hF.plan hj
  have s0 : Sm (tPc j) σ (sI σ (69 + 4 * j) 4 0) := Sm.rf.sI (by unfold tPc; simp)
  have hF0 := hF.sm s0
  obtain ⟨σ1, a1, a2, a3⟩ := c_rewind (σ := sI σ (69 + 4 * j) 4 0) (b := b) (hF0.2.1) hL (by rw [gI_sI, if_neg (by omega)]; exact h1) (fun k hk => by rw [gI_sI, if_neg (by omega)]; exact hb k hk)
  obtain ⟨τ1, c1, c2, c3, c4⟩ := m_starts r1 hL h6 hb'
  have s1 : Sm (tPc j) σ σ1 := s0.tr (a3.mono (fun c k hc => (Bool.or_eq_false_iff.mp hc).1))
  have z0 : gI σ1 (69 + 4 * j) 4 = nI 0 := by
    rw [a3.1 _ _ (by unfold tA; simp), gI_sI, if_pos ⟨rfl, rfl⟩]
    rfl
  have tM1 : ∀ {x y : Mm}, Sm tPm x y → Sm (fun c k => tPm c k || tMs c k) x y := fun h => h.mono (fun c k hc => (Bool.or_eq_false_iff.mp hc).1)
  have m1 : Sm (fun c k => tPm c k || tMs c k) τ τ1 := c4.mono (fun c k hc => (Bool.or_eq_false_iff.mp hc).2)
  obtain ⟨σ2, τ2, d1, d2, d3⟩ := X_planL hj 16 0 σ1 τ1 0 rfl (by omega) (hF.sm s1) a2 c2 c3 z0 (by rw [c4.2.2 _ _ (by omega)]; exact r24) (fun i hi => by omega) BIG BIG (by unfold BIG; omega) (by unfold BIG; omega)
  have hF2 := (hF.sm s1).sm d1
  obtain ⟨-, r0', -⟩ := hF2.plan hj
  have pre : fX5_parse (69 + 4 * j) σ = (fX5_parse_w16 (69 + 4 * j) 1 0 σ1).bind (Sum.elim (fun eo110 => some eo110) (fun eo111 => (fun so11 => fX5_parse_b68 (69 + 4 * j) so11) eo111)) := by
    unfold fX5_parse
    rw [r0, Option.bind_some, a1, Option.bind_some]
  have prm : fX10_readPlan 310 τ = (fX10_readPlan_w17 310 0 1 τ1).bind (Sum.elim (fun eo110 => some eo110) (Sum.elim (fun eo111 => (fun xo11_1 so11 => (gR so11 310 25).bind fun r12 => if ixB 4 (ln r12) = true then bnd2 (fX10_look 310 (sI so11 r12 (Int32.toNatClampNeg 4) xo11_1)) fun vk14 sk14 => if vk14 = (-1) then some sk14 else bnd2 (fX10_fails 310 sk14) fun vk16 sk16 => some sk16 else none) eo111.1 eo111.2) (fun eo112 => (fun so11 => bnd2 (fX10_fails 310 so11) fun vk17 sk17 => some sk17) eo112))) := by
    unfold fX10_readPlan
    rw [r1, Option.bind_some, c1, Option.bind_some]
  have r25' : gR τ2 310 25 = some 322 := by rw [d2.2.2 _ _ (by omega), c4.2.2 _ _ (by omega)]; exact r25
  unfold fX5_parse_w16 at pre
  unfold fX10_readPlan_w17 at prm
  rcases d3 with ⟨e, e1, e2, e3, e4, e5⟩ | ⟨n, q, q', e1, e2, e3, e4, e5, e6, e7, e8, e9, e10⟩ | ⟨q, e1, e2, e3, e4, e5, e6⟩
  · refine ⟨σ2, τ2, s1.tr d1, m1.tr (tM1 d2), Or.inl ⟨e, ?_, e2, ?_, e4, e5⟩⟩
    · rw [pre]
      exact (congrArg (fun x => Option.bind x _) e1).trans rfl
    · rw [prm]
      exact (congrArg (fun x => Option.bind x _) e3).trans rfl
  · have hs := sk_bd (b := b) e5.1
    have pre2 : fX5_parse (69 + 4 * j) σ = if sg b L q = -1 then some (1, sI σ2 1 2 (nI (sk b L q))) else some (0, sI (sI σ2 1 2 (nI (sk b L q))) 1 3 (nI (sk b L q))) := by
      rw [pre]
      refine (congrArg (fun x => Option.bind x _) e3).trans ?_
      show fX5_parse_b68 (69 + 4 * j) σ2 = _
      unfold fX5_parse_b68
      rw [r0', Option.bind_some, c_next e5, bnd2_some]
      by_cases z : sg b L q = -1
      · rw [if_pos z, if_pos z]
      · rw [if_neg z, if_neg z, show gR (sI σ2 1 2 (nI (sk b L q))) (69 + 4 * j) 0 = some 1 from r0', Option.bind_some, c_wrong (e5.cur hs.2.1), bnd2_some, if_pos rfl]
    have esg : sg b L q' = sg b L q := by unfold sg; rw [e7]
    have k2 : TM (sI τ2 322 4 (nI n)) 311 0 b L q' := e6.oth (Or.inr ⟨by omega, by omega, by omega⟩)
    have f2 : ∀ x, gI (sI (sI τ2 322 4 (nI n)) 310 10 x) 310 11 = -1 := fun x => by rw [gI_sI, if_neg (by omega), gI_sI, if_neg (by omega)]; exact e8
    have prm2 : fX10_readPlan 310 τ = if sg b L q = -1 then some (sI (sI τ2 322 4 (nI n)) 310 10 (nI (sk b L q))) else some (sI (sI (sI τ2 322 4 (nI n)) 310 10 (nI (sk b L q))) 310 11 (nI (sk b L q))) := by
      rw [prm]
      refine (congrArg (fun x => Option.bind x _) e4).trans ?_
      show ((gR τ2 310 25).bind fun r12 => if ixB 4 (ln r12) = true then bnd2 (fX10_look 310 (sI τ2 r12 (Int32.toNatClampNeg 4) (nI n))) fun vk14 sk14 => if vk14 = (-1) then some sk14 else bnd2 (fX10_fails 310 sk14) fun vk16 sk16 => some sk16 else none) = _
      have hs' := e7 ▸ hs
      rw [r25', Option.bind_some, ln321.2, if_pos (show ixB 4 5 = true by decide), show Int32.toNatClampNeg 4 = 4 by decide, m_look k2, bnd2_some, esg, e7]
      by_cases z : sg b L q = -1
      · rw [if_pos z, if_pos z]
      · rw [if_neg z, if_neg z, m_fails (k2.cur hs.2.1) (f2 _), bnd2_some]
    have m4 : Sm (fun c k => tPm c k || tMs c k) τ (sI (sI τ2 322 4 (nI n)) 310 10 (nI (sk b L q))) := ((m1.tr (tM1 d2)).sI rfl).sI rfl
    by_cases z : sg b L q = -1
    · rw [if_pos z] at pre2 prm2
      refine ⟨_, _, (s1.tr d1).sI rfl, m4, Or.inr ⟨n, e1, e2, pre2, prm2, f2 _, ?_, ?_, ?_⟩⟩
      · rw [gI_sI, if_neg (by omega)]; exact e9
      · rw [gI_sI, if_neg (by omega), gI_sI, if_pos ⟨rfl, rfl⟩]
      · refine Rows.cur (fun i hi => ?_)
        have := e10 i hi
        simp only [gI_sI]
        rw [if_neg (by omega), if_neg (by omega), if_neg (by omega)]
        exact this
    · rw [if_neg z] at pre2 prm2
      exact ⟨_, _, ((s1.tr d1).sI rfl).sI rfl, m4.sI rfl, Or.inl ⟨sk b L q, pre2, by rw [gI_sI, if_pos ⟨rfl, rfl⟩], prm2, by rw [gI_sI, if_pos ⟨rfl, rfl⟩], by omega⟩⟩
  · have hs := sk_bd (b := b) e3.1
    refine ⟨sI (sI σ2 1 2 (nI (sk b L q))) 1 3 (nI (sk b L q)), sI τ2 310 11 (nI (sk b L q)), ((s1.tr d1).sI rfl).sI rfl, (m1.tr (tM1 d2)).sI rfl, Or.inl ⟨sk b L q, ?_, by rw [gI_sI, if_pos ⟨rfl, rfl⟩], ?_, by rw [gI_sI, if_pos ⟨rfl, rfl⟩], by omega⟩⟩
    · rw [pre]
      refine (congrArg (fun x => Option.bind x _) e1).trans ?_
      show fX5_parse_b68 (69 + 4 * j) σ2 = _
      unfold fX5_parse_b68
      rw [r0', Option.bind_some, c_next e3, bnd2_some, if_neg e6, show gR (sI σ2 1 2 (nI (sk b L q))) (69 + 4 * j) 0 = some 1 from r0', Option.bind_some, c_wrong (e3.cur hs.2.1), bnd2_some, if_pos rfl]
    · rw [prm]
      refine (congrArg (fun x => Option.bind x _) e2).trans ?_
      show (bnd2 (fX10_fails 310 τ2) fun vk17 sk17 => some sk17) = _
      rw [m_fails e4 e5, bnd2_some]
end PlanL
