/-! plans: both parsers in step -/
section Plan
variable {σ τ : Mm} {b : Nat → Nat} {L p : Nat}
def tPc (j c k : Nat) : Bool := tA c k || (decide (69 + 4 * j ≤ c) && decide (c ≤ 72 + 4 * j))
def tPm (c k : Nat) : Bool := tM c k || (c == 321 && decide (192 ≤ k)) || (c == 322 && k == 4)
def StepOK (κ ρ θ : Int32) : Prop := ((κ = 0 ∨ κ = 1 ∨ κ = 2) ∧ (∃ r, r < 10 ∧ ρ = nI r) ∧ ∃ t, t < 30 ∧ θ = nI t) ∨ κ = 3 ∧ ρ = -1 ∧ θ = -1
theorem ln_plan : ∀ j, j < 5 → ln (70 + 4 * j) = 16 ∧ ln (71 + 4 * j) = 16 ∧ ln (72 + 4 * j) = 16 := by decide +kernel
theorem ln321 : ln 321 = 240 ∧ ln 322 = 5 := by decide +kernel
theorem RF.plan (h : RF σ) {j : Nat} (hj : j < 5) : gR σ 68 j = some (69 + 4 * j) ∧ gR σ (69 + 4 * j) 0 = some 1 ∧ gR σ (69 + 4 * j) 1 = some (70 + 4 * j) ∧ gR σ (69 + 4 * j) 2 = some (71 + 4 * j) ∧ gR σ (69 + 4 * j) 3 = some (72 + 4 * j) := h.2.2.2.2.2.2.2.1 j hj
theorem RF.law (h : RF σ) {j : Nat} (hj : j < 5) : gR σ 47 j = some (48 + 4 * j) ∧ gR σ (48 + 4 * j) 0 = some 1 ∧ gR σ (48 + 4 * j) 1 = some (49 + 4 * j) ∧ gR σ (48 + 4 * j) 2 = some (50 + 4 * j) ∧ gR σ (48 + 4 * j) 3 = some (51 + 4 * j) := h.2.2.2.2.2.2.1 j hj
theorem c_add {j n : Nat} (hF : RF σ) (hj : j < 5) (hn : n < 16) (hz : gI σ (69 + 4 * j) 4 = nI n) (κ ρ θ : Int32) : fX5_add (69 + 4 * j) κ ρ θ σ = some (1, sI (sI (sI (sI σ (70 + 4 * j) n κ) (71 + 4 * j) n ρ) (72 + 4 * j) n θ) (69 + 4 * j) 4 (nI (n + 1))) := by
  obtain ⟨-, -, r1, r2, r3⟩ := hF.plan hj
  obtain ⟨l1, l2, l3⟩ := ln_plan j hj
  have e1 : gI (sI σ (70 + 4 * j) n κ) (69 + 4 * j) 4 = nI n := by rw [gI_sI, if_neg (by omega)]; exact hz
  have e2 : gI (sI (sI σ (70 + 4 * j) n κ) (71 + 4 * j) n ρ) (69 + 4 * j) 4 = nI n := by rw [gI_sI, if_neg (by omega)]; exact e1
  have e3 : gI (sI (sI (sI σ (70 + 4 * j) n κ) (71 + 4 * j) n ρ) (72 + 4 * j) n θ) (69 + 4 * j) 4 = nI n := by rw [gI_sI, if_neg (by omega)]; exact e2
  have x : ixB (nI n) 16 = true := ixT hn (by omega)
  have c : Int32.toNatClampNeg (nI n) = n := clT (by omega)
  unfold fX5_add
  simp only [hz, if_pos (show nI n < 16 from (ltT (b := 16) (by omega) (by omega)).mpr hn), r1, r2, r3, Option.bind_some, l1, l2, l3, x, c, if_true, e1, e2, e3, nI_1]
theorem dtab : ∀ x, x < 256 → (nI x - 48 < 0 ↔ x < 48) ∧ (¬ x < 48 → (nI x - 48 ≤ 9 ↔ x ≤ 57)) := by decide +kernel
theorem sg_dig (h : TC σ b L p) : (sg b L p - 48 < 0 ∨ ¬ sg b L p - 48 ≤ 9) ↔ ¬ dg b L (sk b L p) := by
  unfold sg dg
  by_cases q : sk b L p < L
  · obtain ⟨d1, d2⟩ := dtab _ (h.2.2.2.2.2 _ q).1
    rw [if_pos q]
    constructor
    · rintro (z | z) y
      · have := d1.mp z; omega
      · exact z ((d2 (by omega)).mpr (by omega))
    · intro z
      by_cases y : b (sk b L p) < 48
      · exact Or.inl (d1.mpr y)
      · exact Or.inr (fun u => z ⟨q, by omega, (d2 y).mp u⟩)
  · rw [if_neg q]
    exact ⟨fun _ y => q y.1, fun _ => Or.inl (by decide)⟩
theorem row_idx {n : Nat} (hn : n < 16) : (3 : Int32) * (64 + nI n) = nI (192 + 3 * n) := by
  rw [show (3 : Int32) = nI 3 from rfl, show (64 : Int32) = nI 64 from rfl, nI_add, pk_mul]; exact congrArg nI (by omega)
theorem X_step {j n : Nat} (hj : j < 5) (hn : n < 16) (hF : RF σ) (h : TC σ b L p) (k : TM τ 311 0 b L p) (hf : gI τ 310 11 = -1) (hz : gI σ (69 + 4 * j) 4 = nI n) (r24 : gR τ 310 24 = some 321) :
    (∃ e σ' τ', fX5_stepText (69 + 4 * j) σ = some (0, σ') ∧ gI σ' 1 3 = nI e ∧ fX10_readStep 310 (3 * (64 + nI n)) τ = some τ' ∧ gI τ' 310 11 = nI e ∧ Sm (tPc j) σ σ' ∧ Sm tPm τ τ' ∧ e ≤ 240) ∨
    (∃ q σ' τ', p < q ∧ q ≤ L ∧ fX5_stepText (69 + 4 * j) σ = some (1, σ') ∧ fX10_readStep 310 (3 * (64 + nI n)) τ = some τ' ∧ gI τ' 310 11 = -1 ∧ TC σ' b L q ∧ TM τ' 311 0 b L q ∧ Sm (tPc j) σ σ' ∧ Sm tPm τ τ' ∧ gI σ' (69 + 4 * j) 4 = nI (n + 1) ∧ StepOK (gI σ' (70 + 4 * j) n) (gI σ' (71 + 4 * j) n) (gI σ' (72 + 4 * j) n) ∧ (gI τ' 321 (192 + 3 * n) = gI σ' (70 + 4 * j) n ∧ gI τ' 321 (193 + 3 * n) = gI σ' (71 + 4 * j) n ∧ gI τ' 321 (194 + 3 * n) = gI σ' (72 + 4 * j) n) ∧ (∀ i, i < n → gI σ' (70 + 4 * j) i = gI σ (70 + 4 * j) i ∧ gI σ' (71 + 4 * j) i = gI σ (71 + 4 * j) i ∧ gI σ' (72 + 4 * j) i = gI σ (72 + 4 * j) i) ∧ ∀ i, i < 192 + 3 * n → gI τ' 321 i = gI τ 321 i) := by
  obtain ⟨-, r0, -⟩ := hF.plan hj
  have l321 := ln321.1
  obtain ⟨s1, s2, s3⟩ := sk_bd (b := b) h.1
  have hL := h.2.1
  have h4 := sl_tab.2.2.2.2.1
  have hC := h.cur s2
  have hM := k.cur s2
  have n1 : ∀ v, gR (sI σ 1 2 v) (69 + 4 * j) 0 = some 1 := fun v => r0
  have A1 : ∀ (s : Mm) v, Sm (tPc j) s (sI s 1 2 v) := fun s v => Sm.rf.sI rfl
  have A3 : ∀ (s : Mm) v, Sm (tPc j) s (sI s 1 3 v) := fun s v => Sm.rf.sI rfl
  have M10 : ∀ (s : Mm) v, Sm tPm s (sI s 310 10 v) := fun s v => Sm.rf.sI rfl
  have M11 : ∀ (s : Mm) v, Sm tPm s (sI s 310 11 v) := fun s v => Sm.rf.sI rfl
  have M21 : ∀ (s : Mm) k v, Sm tPm s (sI s 321 (192 + k) v) := fun s k v => Sm.rf.sI (by unfold tPm; simp)
  have x0 : ixB (nI (192 + 3 * n)) 240 = true := ixT (by omega) (by omega)
  have x1 : ixB (nI (192 + 3 * n + 1)) 240 = true := ixT (by omega) (by omega)
  have x2 : ixB (nI (192 + 3 * n + 2)) 240 = true := ixT (by omega) (by omega)
  have c0 : Int32.toNatClampNeg (nI (192 + 3 * n)) = 192 + 3 * n := clT (by omega)
  have c1 : Int32.toNatClampNeg (nI (192 + 3 * n + 1)) = 192 + (3 * n + 1) := clT (by omega)
  have c2 : Int32.toNatClampNeg (nI (192 + 3 * n + 2)) = 192 + (3 * n + 2) := clT (by omega)
  have i2 : ∀ k, nI k + 2 = nI (k + 2) := fun k => by rw [show (2 : Int32) = nI 2 from rfl, nI_add]
  rw [row_idx hn]
  unfold fX5_stepText fX10_readStep
  rw [r0, Option.bind_some, c_nextOf h (1100 + 2 * 4) six_m1.2.2.2.2.1, bnd2_some, m_look k, bnd2_some, m_spot _ _ (by rw [show 1100 + 2 * 4 = 1108 from rfl, h4]; omega), Option.bind_some, show 1100 + 2 * 4 = 1108 from rfl]
  rcases six_rng 1108 (sg b L p) with e | ⟨i, hi, e⟩
  · left
    rw [e, if_neg (by decide), if_pos rfl, n1, Option.bind_some, c_wrong hC, bnd2_some, m_fails hM (by rw [gI_sI, if_neg (by omega)]; exact hf), bnd2_some]
    exact ⟨sk b L p, _, _, rfl, by rw [gI_sI, if_pos ⟨rfl, rfl⟩], rfl, by rw [gI_sI, if_pos ⟨rfl, rfl⟩], (A1 _ _).tr (A3 _ _), (M10 _ _).tr (M11 _ _), by omega⟩
  · rw [h4] at hi
    have hlt := six_lt h six_m1.2.2.2.2.1 (by rw [e]; exact fun z => (eqN1 (by omega)).mp z)
    have hC1 := h.cur (q := sk b L p + 1) (by omega)
    have hM1 := k.cur (q := sk b L p + 1) (by omega)
    rw [e, if_pos (nI_pos' (by omega)), if_neg (fun z => (eqN1 (by omega)).mp z), n1, Option.bind_some, hC.2.2.2.2.1, nI_1, sI_sI, hM.2.2.2.2.2.2.2.1, nI_1, sI_sI, show gR (sI τ 310 10 (nI (sk b L p))) 310 24 = some 321 from r24, Option.bind_some]
    simp only [nI_1, i2, l321, x0, x1, x2, c0, c1, c2, if_true]
    generalize hS1 : sI σ 1 2 (nI (sk b L p + 1)) = S1 at hC1
    generalize hT1 : sI τ 310 10 (nI (sk b L p + 1)) = T1 at hM1
    have s1S : Sm (tPc j) σ S1 := by rw [← hS1]; exact A1 _ _
    have s1T : Sm tPm τ T1 := by rw [← hT1]; exact M10 _ _
    have fT1 : gI T1 310 11 = -1 := by rw [← hT1, gI_sI, if_neg (by omega)]; exact hf
    have hF1 := hF.sm s1S
    have zS1 : gI S1 (69 + 4 * j) 4 = nI n := by rw [← hS1, gI_sI, if_neg (by omega)]; exact hz
    have oS1 : ∀ c k, 2 ≤ c → gI S1 c k = gI σ c k := fun c k hc => by rw [← hS1, gI_sI, if_neg (by omega)]
    have oT1 : ∀ k, gI T1 321 k = gI τ 321 k := fun k => by rw [← hT1, gI_sI, if_neg (by omega)]
    have rS1 : gR S1 (69 + 4 * j) 0 = some 1 := by rw [← hS1]; exact r0
    have rT1 : gR T1 310 24 = some 321 := by rw [← hT1]; exact r24
    -- what a row put down gives
    have fin : ∀ (s : Mm) (t : Mm) q κ ρ θ, p < q → q ≤ L → RF s → gI s (69 + 4 * j) 4 = nI n → TC s b L q → TM t 311 0 b L q → gI t 310 11 = -1 → Sm (tPc j) σ s → Sm tPm τ t → StepOK κ ρ θ → (∀ c k, 2 ≤ c → gI s c k = gI σ c k) → (∀ i, i < 192 + 3 * n → gI t 321 i = gI τ 321 i) → gI t 321 (192 + 3 * n) = κ → gI t 321 (193 + 3 * n) = ρ → gI t 321 (194 + 3 * n) = θ → ∃ σ', fX5_add (69 + 4 * j) κ ρ θ s = some (1, σ') ∧ TC σ' b L q ∧ Sm (tPc j) σ σ' ∧ gI σ' (69 + 4 * j) 4 = nI (n + 1) ∧ StepOK (gI σ' (70 + 4 * j) n) (gI σ' (71 + 4 * j) n) (gI σ' (72 + 4 * j) n) ∧ (gI t 321 (192 + 3 * n) = gI σ' (70 + 4 * j) n ∧ gI t 321 (193 + 3 * n) = gI σ' (71 + 4 * j) n ∧ gI t 321 (194 + 3 * n) = gI σ' (72 + 4 * j) n) ∧ (∀ i, i < n → gI σ' (70 + 4 * j) i = gI σ (70 + 4 * j) i ∧ gI σ' (71 + 4 * j) i = gI σ (71 + 4 * j) i ∧ gI σ' (72 + 4 * j) i = gI σ (72 + 4 * j) i) := by
      intro s t q κ ρ θ _ _ hFs hzs hCs _ _ hs _ hok hcs _ e1 e2 e3
      refine ⟨_, c_add hFs hj hn hzs κ ρ θ, ?_, ?_, ?_, ?_, ?_, ?_⟩
      · have s5 : Sm (fun c (_ : Nat) => decide (69 ≤ c)) s (sI (sI (sI (sI s (70 + 4 * j) n κ) (71 + 4 * j) n ρ) (72 + 4 * j) n θ) (69 + 4 * j) 4 (nI (n + 1))) := (((Sm.rf.sI (by simp; omega)).sI (by simp; omega)).sI (by simp; omega)).sI (by simp)
        exact hCs.sm s5 rfl rfl (fun _ => rfl)
      · exact (((hs.sI (by unfold tPc; simp)).sI (by unfold tPc; simp)).sI (by unfold tPc; simp)).sI (by unfold tPc; simp)
      · rw [gI_sI, if_pos ⟨rfl, rfl⟩]
      · simp only [gI_sI]
        rw [if_neg (by omega), if_neg (by omega), if_neg (by omega), if_pos (by first | (simp; done) | (simp; omega)), if_neg (by omega), if_neg (by omega), if_pos (by first | (simp; done) | (simp; omega)), if_neg (by omega), if_pos (by first | (simp; done) | (simp; omega))]
        exact hok
      · simp only [gI_sI]
        rw [if_neg (by omega), if_neg (by omega), if_neg (by omega), if_pos (by first | (simp; done) | (simp; omega)), if_neg (by omega), if_neg (by omega), if_pos (by first | (simp; done) | (simp; omega)), if_neg (by omega), if_pos (by first | (simp; done) | (simp; omega))]
        exact ⟨e1, e2, e3⟩
      · intro i hi
        simp only [gI_sI]
        refine ⟨?_, ?_, ?_⟩
        · rw [if_neg (by omega), if_neg (by omega), if_neg (by omega), if_neg (by omega)]; exact hcs _ _ (by omega)
        · rw [if_neg (by omega), if_neg (by omega), if_neg (by omega), if_neg (by omega)]; exact hcs _ _ (by omega)
        · rw [if_neg (by omega), if_neg (by omega), if_neg (by omega), if_neg (by omega)]; exact hcs _ _ (by omega)
    by_cases q3 : i = 3
    · subst q3
      rw [if_pos (show nI 3 = 3 from rfl), if_pos (show nI 3 = 3 from rfl)]
      right
      have hMt : TM (sI (sI (sI T1 321 (192 + 3 * n) (nI 3)) 321 (192 + (3 * n + 1)) (-1)) 321 (192 + (3 * n + 2)) (-1)) 311 0 b L (sk b L p + 1) := ((hM1.oth (Or.inr ⟨by omega, by omega, by omega⟩)).oth (Or.inr ⟨by omega, by omega, by omega⟩)).oth (Or.inr ⟨by omega, by omega, by omega⟩)
      obtain ⟨σ', f1, f2, f3, f4, f5, f6, f7⟩ := fin S1 _ (sk b L p + 1) (nI 3) (-1) (-1) (by omega) (by omega) hF1 zS1 hC1 hMt (by simp only [gI_sI]; rw [if_neg (by omega), if_neg (by omega), if_neg (by omega)]; exact fT1) s1S (((s1T.tr (M21 _ _ _)).tr (M21 _ _ _)).tr (M21 _ _ _)) (Or.inr ⟨rfl, rfl, rfl⟩) oS1 (fun i hi => by simp only [gI_sI]; rw [if_neg (by omega), if_neg (by omega), if_neg (by omega)]; exact oT1 _) (by simp only [gI_sI]; rw [if_neg (by omega), if_neg (by omega), if_pos (by first | (simp; done) | (simp; omega))]) (by simp only [gI_sI]; rw [if_neg (by omega), if_pos (by first | (simp; done) | (simp; omega))]) (by simp only [gI_sI]; rw [if_pos (by first | (simp; done) | (simp; omega))])
      rw [f1, bnd2_some]
      exact ⟨_, _, _, by omega, by omega, rfl, rfl, by simp only [gI_sI]; rw [if_neg (by omega), if_neg (by omega), if_neg (by omega)]; exact fT1, f2, hMt, f3, ((s1T.tr (M21 _ _ _)).tr (M21 _ _ _)).tr (M21 _ _ _), f4, f5, f6, f7, fun i hi => by simp only [gI_sI]; rw [if_neg (by omega), if_neg (by omega), if_neg (by omega)]; exact oT1 _⟩
    · have ne3 : ¬ nI i = 3 := fun z => q3 ((eqT (b := 3) (by omega) (by omega)).mp z)
      rw [if_neg ne3, if_neg ne3, c_next hC1, bnd2_some]
      generalize hT2 : sI (sI (sI T1 321 (192 + 3 * n) (nI i)) 321 (192 + (3 * n + 1)) (-1)) 321 (192 + (3 * n + 2)) (-1) = T2
      have hM2 : TM T2 311 0 b L (sk b L p + 1) := by
        rw [← hT2]
        exact ((hM1.oth (Or.inr ⟨by omega, by omega, by omega⟩)).oth (Or.inr ⟨by omega, by omega, by omega⟩)).oth (Or.inr ⟨by omega, by omega, by omega⟩)
      have fT2 : gI T2 310 11 = -1 := by rw [← hT2]; simp only [gI_sI]; rw [if_neg (by omega), if_neg (by omega), if_neg (by omega)]; exact fT1
      have s2T : Sm tPm τ T2 := by rw [← hT2]; exact ((s1T.tr (M21 _ _ _)).tr (M21 _ _ _)).tr (M21 _ _ _)
      have oT2 : (∀ i, i < 192 + 3 * n → gI T2 321 i = gI τ 321 i) ∧ gI T2 321 (192 + 3 * n) = nI i := by
        rw [← hT2]
        refine ⟨fun i hi => ?_, ?_⟩
        · simp only [gI_sI]; rw [if_neg (by omega), if_neg (by omega), if_neg (by omega)]; exact oT1 _
        · simp only [gI_sI]; rw [if_neg (by omega), if_neg (by omega), if_pos (by first | (simp; done) | (simp; omega))]
      have rT2 : gR T2 310 24 = some 321 := by rw [← hT2]; exact rT1
      rw [m_look hM2, bnd2_some]
      have sd := sg_dig hC1
      obtain ⟨u1, u2, u3⟩ := sk_bd (b := b) hC1.1
      generalize hP2 : sk b L (sk b L p + 1) = P2 at sd u1 u2 u3
      have hC2 := hC1.cur (q := P2) u2
      have hM3 := hM2.cur (q := P2) u2
      rw [m_isDig hM3, Option.bind_some]
      by_cases q4 : dg b L P2
      · have nd : ¬ (sg b L (sk b L p + 1) - 48 < 0 ∨ ¬ sg b L (sk b L p + 1) - 48 ≤ 9) := fun z => (sd.mp z) q4
        have nd2 : sg b L (sk b L p + 1) - 48 ≤ 9 := Classical.byContradiction fun z => nd (Or.inr z)
        have er : sg b L (sk b L p + 1) - 48 = nI (b P2 - 48) := by
          unfold sg; rw [hP2, if_pos q4.1, show (48 : Int32) = nI 48 from rfl, pk_sub q4.2.1]
        rw [if_pos q4, if_neg z1, if_neg (fun z => nd (Or.inl z)), if_pos nd2, show gR (sI S1 1 2 (nI P2)) (69 + 4 * j) 0 = some 1 from rS1, Option.bind_some, er, hC2.2.2.2.2.1, nI_1, sI_sI, show gR (sI T2 310 10 (nI P2)) 310 24 = some 321 from rT2, Option.bind_some, l321, if_pos x1]
        have q4' := q4
        obtain ⟨g1, g2, g3⟩ := q4'
        have hC3 := hC1.cur (q := P2 + 1) (by omega)
        have em : (sI (sI (sI T2 310 10 (nI P2)) 321 (192 + (3 * n + 1)) (nI (b P2 - 48))) 310 10 ((gI (sI (sI T2 310 10 (nI P2)) 321 (192 + (3 * n + 1)) (nI (b P2 - 48))) 310 10) + 1)) = sI (sI (sI T2 310 10 (nI P2)) 321 (192 + (3 * n + 1)) (nI (b P2 - 48))) 310 10 (nI (P2 + 1)) := by
          rw [gI_sI, if_neg (by omega), hM3.2.2.2.2.2.2.2.1, nI_1]
        rw [em]
        have hM4 : TM (sI (sI (sI T2 310 10 (nI P2)) 321 (192 + (3 * n + 1)) (nI (b P2 - 48))) 310 10 (nI (P2 + 1))) 311 0 b L (P2 + 1) := (hM3.oth (Or.inr ⟨by omega, by omega, by omega⟩)).cur (by omega)
        generalize hS3 : sI S1 1 2 (nI (P2 + 1)) = S3 at hC3
        generalize hT4 : sI (sI (sI T2 310 10 (nI P2)) 321 (192 + (3 * n + 1)) (nI (b P2 - 48))) 310 10 (nI (P2 + 1)) = T4 at hM4
        have s3S : Sm (tPc j) σ S3 := by rw [← hS3]; exact s1S.tr (A1 _ _)
        have s4T : Sm tPm τ T4 := by rw [← hT4]; exact ((s2T.tr (M10 _ _)).tr (M21 _ _ _)).tr (M10 _ _)
        have fT4 : gI T4 310 11 = -1 := by rw [← hT4]; simp only [gI_sI]; rw [if_neg (by omega), if_neg (by omega), if_neg (by omega)]; exact fT2
        have zS3 : gI S3 (69 + 4 * j) 4 = nI n := by rw [← hS3, gI_sI, if_neg (by omega)]; exact zS1
        have oS3 : ∀ c k, 2 ≤ c → gI S3 c k = gI σ c k := fun c k hc => by rw [← hS3, gI_sI, if_neg (by omega)]; exact oS1 c k hc
        have oT4 : (∀ i, i < 192 + 3 * n → gI T4 321 i = gI τ 321 i) ∧ gI T4 321 (192 + 3 * n) = nI i ∧ gI T4 321 (193 + 3 * n) = nI (b P2 - 48) := by
          rw [← hT4]
          refine ⟨fun i hi => ?_, ?_, ?_⟩
          · simp only [gI_sI]; rw [if_neg (by omega), if_neg (by omega), if_neg (by omega)]; exact oT2.1 _ hi
          · simp only [gI_sI]; rw [if_neg (by omega), if_neg (by omega), if_neg (by omega)]; exact oT2.2
          · simp only [gI_sI]; rw [if_neg (by omega), if_pos (by first | (simp; done) | (simp; omega))]
        have num : ∀ hi, hi < 30 → ((∃ e σ' τ', fX5_stepText_b108 (69 + 4 * j) (nI i) (nI (b P2 - 48)) 1 2 0 (nI hi) S3 = some (0, σ') ∧ gI σ' 1 3 = nI e ∧ fX10_readStep_b124 321 (nI (192 + 3 * n + 2)) 310 0 (nI hi) T4 = some τ' ∧ gI τ' 310 11 = nI e ∧ Sm (tPc j) σ σ' ∧ Sm tPm τ τ' ∧ e ≤ 240) ∨ (∃ q σ' τ', p < q ∧ q ≤ L ∧ fX5_stepText_b108 (69 + 4 * j) (nI i) (nI (b P2 - 48)) 1 2 0 (nI hi) S3 = some (1, σ') ∧ fX10_readStep_b124 321 (nI (192 + 3 * n + 2)) 310 0 (nI hi) T4 = some τ' ∧ gI τ' 310 11 = -1 ∧ TC σ' b L q ∧ TM τ' 311 0 b L q ∧ Sm (tPc j) σ σ' ∧ Sm tPm τ τ' ∧ gI σ' (69 + 4 * j) 4 = nI (n + 1) ∧ StepOK (gI σ' (70 + 4 * j) n) (gI σ' (71 + 4 * j) n) (gI σ' (72 + 4 * j) n) ∧ (gI τ' 321 (192 + 3 * n) = gI σ' (70 + 4 * j) n ∧ gI τ' 321 (193 + 3 * n) = gI σ' (71 + 4 * j) n ∧ gI τ' 321 (194 + 3 * n) = gI σ' (72 + 4 * j) n) ∧ (∀ i, i < n → gI σ' (70 + 4 * j) i = gI σ (70 + 4 * j) i ∧ gI σ' (71 + 4 * j) i = gI σ (71 + 4 * j) i ∧ gI σ' (72 + 4 * j) i = gI σ (72 + 4 * j) i) ∧ ∀ i, i < 192 + 3 * n → gI τ' 321 i = gI τ 321 i)) := by
          intro hi hhi
          unfold fX5_stepText_b108 fX10_readStep_b124
          rcases X_num2 (lo := 0) (hi := hi) hC3 hM4 fT4 (by omega) (by omega) with ⟨e, σ', τ', v, a1, a2, a3, a4, a5, a6, a7⟩ | ⟨v, q, a1, a2, a3, a4, a5, a6⟩
          · left
            rw [show (0 : Int32) = nI 0 from rfl, a1, bnd2_some, if_pos (by decide), a4, bnd2_some, l321, if_pos x2, c2]
            refine ⟨e, _, _, rfl, a2, rfl, by rw [gI_sI, if_neg (by omega)]; exact a5, s3S.tr (a3.mono (fun c k hc => (Bool.or_eq_false_iff.mp hc).1)), (s4T.tr (a6.mono (fun c k hc => (Bool.or_eq_false_iff.mp (Bool.or_eq_false_iff.mp hc).1).1))).tr (M21 _ _ _), a7⟩
          · right
            have hMq := hM4.cur (q := q) a4
            have hMt : TM (sI (sI T4 310 10 (nI q)) 321 (192 + (3 * n + 2)) (nI v)) 311 0 b L q := hMq.oth (Or.inr ⟨by omega, by omega, by omega⟩)
            have fq : gI (sI (sI T4 310 10 (nI q)) 321 (192 + (3 * n + 2)) (nI v)) 310 11 = -1 := by simp only [gI_sI]; rw [if_neg (by omega), if_neg (by omega)]; exact fT4
            have sq : Sm tPm τ (sI (sI T4 310 10 (nI q)) 321 (192 + (3 * n + 2)) (nI v)) := (s4T.tr (M10 _ _)).tr (M21 _ _ _)
            have oq : ∀ i, i < 192 + 3 * n → gI (sI (sI T4 310 10 (nI q)) 321 (192 + (3 * n + 2)) (nI v)) 321 i = gI τ 321 i := fun i hi => by simp only [gI_sI]; rw [if_neg (by omega), if_neg (by omega)]; exact oT4.1 _ hi
            have hi3 : i = 0 ∨ i = 1 ∨ i = 2 := by omega
            have ki3 : nI i = 0 ∨ nI i = 1 ∨ nI i = 2 := by
              rcases hi3 with z | z | z
              · left; rw [z]; rfl
              · right; left; rw [z]; rfl
              · right; right; rw [z]; rfl
            obtain ⟨σ', f1, f2, f3, f4, f5, f6, f7⟩ := fin (sI S3 1 2 (nI q)) (sI (sI T4 310 10 (nI q)) 321 (192 + (3 * n + 2)) (nI v)) q (nI i) (nI (b P2 - 48)) (nI v) (by omega) (by omega) (hF.sm (s3S.tr (A1 _ _))) (by rw [gI_sI, if_neg (by omega)]; exact zS3) (hC3.cur a4) hMt fq (s3S.tr (A1 _ _)) sq (Or.inl ⟨ki3, ⟨_, by omega, rfl⟩, ⟨_, by omega, rfl⟩⟩) (fun c k hc => by rw [gI_sI, if_neg (by omega)]; exact oS3 c k hc) oq (by simp only [gI_sI]; rw [if_neg (by omega), if_neg (by omega)]; exact oT4.2.1) (by simp only [gI_sI]; rw [if_neg (by omega), if_neg (by omega)]; exact oT4.2.2) (by simp only [gI_sI]; rw [if_pos (by first | (simp; done) | (simp; omega))])
            rw [show (0 : Int32) = nI 0 from rfl, a5, bnd2_some, show nI 0 = (0 : Int32) from rfl, if_neg (nI_pos (by omega)), f1, bnd2_some, if_neg z1, show (0 : Int32) = nI 0 from rfl, a6, bnd2_some, l321, if_pos x2, c2]
            exact ⟨q, _, _, by omega, a4, rfl, rfl, fq, f2, hMt, f3, sq, f4, f5, f6, f7, oq⟩
        by_cases q5 : i = 2
        · rw [if_pos (show nI i = 2 by rw [q5]; rfl), if_pos (show nI i = 2 by rw [q5]; rfl)]
          exact num 29 (by omega)
        · have ne2 : ¬ nI i = 2 := fun z => q5 ((eqT (b := 2) (by omega) (by omega)).mp z)
          rw [if_neg ne2, if_neg ne2]
          exact num 11 (by omega)
      · have nd : (sg b L (sk b L p + 1) - 48 < 0 ∨ ¬ sg b L (sk b L p + 1) - 48 ≤ 9) := sd.mpr q4
        left
        have ec : (if sg b L (sk b L p + 1) - 48 < 0 then fX5_stepText_b69 (69 + 4 * j) (sI S1 1 2 (nI P2)) else if sg b L (sk b L p + 1) - 48 ≤ 9 then (gR (sI S1 1 2 (nI P2)) (69 + 4 * j) 0).bind fun r11 => if nI i = 2 then fX5_stepText_b108 (69 + 4 * j) (nI i) (sg b L (sk b L p + 1) - 48) r11 2 0 29 (sI (sI S1 1 2 (nI P2)) r11 2 ((gI (sI S1 1 2 (nI P2)) r11 2) + 1)) else fX5_stepText_b108 (69 + 4 * j) (nI i) (sg b L (sk b L p + 1) - 48) r11 2 0 11 (sI (sI S1 1 2 (nI P2)) r11 2 ((gI (sI S1 1 2 (nI P2)) r11 2) + 1)) else fX5_stepText_b69 (69 + 4 * j) (sI S1 1 2 (nI P2))) = some (0, sI (sI S1 1 2 (nI P2)) 1 3 (nI P2)) := by
          have e69 : fX5_stepText_b69 (69 + 4 * j) (sI S1 1 2 (nI P2)) = some (0, sI (sI S1 1 2 (nI P2)) 1 3 (nI P2)) := by
            unfold fX5_stepText_b69
            rw [show gR (sI S1 1 2 (nI P2)) (69 + 4 * j) 0 = some 1 from rS1, Option.bind_some, c_wrong hC2, bnd2_some]
          by_cases z : sg b L (sk b L p + 1) - 48 < 0
          · rw [if_pos z, e69]
          · rw [if_neg z, if_neg (nd.resolve_left z), e69]
        rw [ec, if_neg q4, if_pos rfl, m_fails hM3 (by rw [gI_sI, if_neg (by omega)]; exact fT2), bnd2_some]
        exact ⟨P2, _, _, rfl, by rw [gI_sI, if_pos ⟨rfl, rfl⟩], rfl, by rw [gI_sI, if_pos ⟨rfl, rfl⟩], (s1S.tr (A1 _ _)).tr (A3 _ _), (s2T.tr (M10 _ _)).tr (M11 _ _), by omega⟩
end Plan
