/-! numbers of two digits; plans -/
section Num
variable {σ τ : Mm} {b : Nat → Nat} {L p : Nat}
def tA (c k : Nat) : Bool := c == 1 && (k == 2 || k == 3)
def tM (c k : Nat) : Bool := c == 310 && (k == 10 || k == 11)
theorem c_wrong (h : TC σ b L p) : fX7_wrongHere 1 σ = some (0, sI σ 1 3 (nI p)) := by
  unfold fX7_wrongHere
  rw [h.2.2.2.2.1]
theorem m_fails {a B : Nat} (h : TM τ a B b L p) (hf : gI τ 310 11 = -1) : fX10_fails 310 τ = some (0, sI τ 310 11 (nI p)) := by
  unfold fX10_fails
  rw [if_pos hf, h.2.2.2.2.2.2.2.1]
theorem fin_c {lo hi v q : Nat} (h : TC σ b L q) (h0 : 1 ≤ q) (hl : lo < 100000) (hh : hi < 100000) (hv : v < 100000) : fX7_number_b98 1 (nI lo) (nI hi) (nI v) σ = if lo ≤ v ∧ v ≤ hi then some (nI v, σ) else some (-1, sI σ 1 3 (nI (q - 1))) := by
  unfold fX7_number_b98 fX7_number_b110
  have hL := h.1
  have hL2 := h.2.1
  rw [h.2.2.2.2.1, show (1 : Int32) = nI 1 from rfl, pk_sub h0]
  by_cases q1 : v < lo
  · rw [if_pos ((ltT (by omega) (by omega)).mpr q1), if_neg (by omega)]
  · rw [if_neg (fun y => q1 ((ltT (by omega) (by omega)).mp y))]
    by_cases q2 : v ≤ hi
    · rw [if_pos ((leT (by omega) (by omega)).mpr q2), if_pos ⟨by omega, q2⟩]
    · rw [if_neg (fun y => q2 ((leT (by omega) (by omega)).mp y)), if_neg (fun y => q2 y.2)]
theorem fin_m {a B lo hi v q : Nat} (h : TM τ a B b L q) (h0 : 1 ≤ q) (hf : gI τ 310 11 = -1) (hd : ¬ dg b L q) (hl : lo < 100000) (hh : hi < 100000) (hv : v < 100000) : fX10_number_b67 310 (nI lo) (nI hi) (nI v) τ = if lo ≤ v ∧ v ≤ hi then some (nI v, τ) else some (nI v, sI (sI τ 310 10 (nI (q - 1))) 310 11 (nI (q - 1))) := by
  have hL := h.1
  unfold fX10_number_b67
  rw [m_isDig h, if_neg hd, Option.bind_some, if_pos rfl, nI_l (n := lo) (by omega), nI_l (n := hi) (by omega), h.2.2.2.2.2.2.2.1, show (1 : Int32) = nI 1 from rfl, pk_sub h0]
  by_cases z : lo ≤ v ∧ v ≤ hi
  · rw [isInT (a := lo) (b := hi) (τ := τ) ⟨v, z.1, z.2, rfl⟩ (by omega), Option.bind_some, if_neg z1, if_pos z]
  · rw [isInF (a := lo) (b := hi) (τ := τ) (fun ⟨k, k1, k2, k3⟩ => z (by
      have := (eqT (by omega) (by omega)).mp k3
      omega)) (by omega) (by omega), Option.bind_some, if_pos rfl, if_neg z, m_fails (h.cur (q := q - 1) (by omega)) (by rw [gI_sI, if_neg (by omega)]; exact hf), bnd2_some]
theorem X_num2 {a B lo hi : Nat} (h : TC σ b L p) (k : TM τ a B b L p) (hf : gI τ 310 11 = -1) (hl : lo ≤ hi) (hh : hi < 100) :
    (∃ e σ' τ' v, fX7_number 1 2 (nI lo) (nI hi) σ = some (-1, σ') ∧ gI σ' 1 3 = nI e ∧ Sm tA σ σ' ∧ fX10_number 310 (nI lo) (nI hi) τ = some (v, τ') ∧ gI τ' 310 11 = nI e ∧ Sm tM τ τ' ∧ e ≤ 240) ∨
    (∃ v q, lo ≤ v ∧ v ≤ hi ∧ p < q ∧ q ≤ L ∧ fX7_number 1 2 (nI lo) (nI hi) σ = some (nI v, sI σ 1 2 (nI q)) ∧ fX10_number 310 (nI lo) (nI hi) τ = some (nI v, sI τ 310 10 (nI q))) := by
  have hL := h.2.1
  obtain ⟨s1, s2, s3⟩ := sk_bd (b := b) h.1
  generalize hP : sk b L p = P at s1 s2 s3
  have hC := h.cur (q := P) s2
  have hM := k.cur (q := P) s2
  have cf : ∀ q, gI (sI τ 310 10 (nI q)) 310 11 = -1 := fun q => by rw [gI_sI, if_neg (by omega)]; exact hf
  have e9 : fX7_number 1 2 (nI lo) (nI hi) σ = if dg b L P then (fX7_number_w23 1 2 (nI lo) (nI hi) 0 0 (sI σ 1 2 (nI P))).bind (Sum.elim (fun eo110 => (fun xo11_4 so11 => fX7_number_b98 1 (nI lo) (nI hi) xo11_4 so11) eo110.1 eo110.2) (fun eo111 => (fun so11 => bnd2 (fX7_wrongHere 1 so11) fun vk14 sk14 => some ((-1), sk14)) eo111)) else some (-1, sI (sI σ 1 2 (nI P)) 1 3 (nI P)) := by
    unfold fX7_number
    rw [c_next h, bnd2_some, c_isDigS h, hP, Option.bind_some]
    by_cases q : dg b L P
    · rw [if_pos q, if_neg z1, if_pos q]
    · rw [if_neg q, if_pos rfl, if_neg q, c_wrong hC, bnd2_some]
  by_cases q0 : dg b L P
  · obtain ⟨q01, q02, q03⟩ := q0
    have q0 : dg b L P := ⟨q01, q02, q03⟩
    have hC1 := h.cur (q := P + 1) (by omega)
    have hM1 := k.cur (q := P + 1) (by omega)
    rw [if_pos q0] at e9
    have st0 : fX7_number_l23 1 2 (nI lo) (nI hi) 0 0 (sI σ 1 2 (nI P)) = some (Sum.inl (nI (b P - 48), 1, sI σ 1 2 (nI (P + 1)))) := by
      rw [c_numL hC, if_pos q0, if_neg (by decide), sI_sI, Int32.zero_mul, Int32.zero_add, show (48 : Int32) = nI 48 from rfl, pk_sub q02]; rfl
    have m0 : fX10_number 310 (nI lo) (nI hi) τ = (if dg b L (P + 1) then fX10_number_b67 310 (nI lo) (nI hi) (((10 * nI (b P - 48)) + nI (b (P + 1))) - 48) (sI τ 310 10 (nI (P + 2))) else fX10_number_b67 310 (nI lo) (nI hi) (nI (b P - 48)) (sI τ 310 10 (nI (P + 1)))) := by
      unfold fX10_number
      have esg : sg b L p - 48 = nI (b P - 48) := by
        unfold sg; rw [hP, if_pos q01, show (48 : Int32) = nI 48 from rfl, pk_sub q02]
      rw [m_look k, bnd2_some, hP, m_isDig hM, if_pos q0, Option.bind_some, if_neg z1, hM.2.2.2.2.2.2.2.1, nI_1, sI_sI, m_isDig hM1, Option.bind_some, esg]
      by_cases q1 : dg b L (P + 1)
      · have hl := k.ln
        have t1 := (by_tab (b (P + 1)) (hM1.2.2.2.2.2.2.2.2 (P + 1) q1.1).1).1
        rw [if_pos q1, if_neg z1, if_pos q1, hM1.2.2.2.2.2.2.2.1, nI_1, sI_sI]
        unfold fX10_here
        rw [hM1.2.2.2.2.2.2.1, hM1.2.2.2.2.2.2.2.1, if_neg (fun z => absurd ((leT (by omega) (by omega)).mp z) (by have := q1.1; omega)), hM1.2.2.1, Option.bind_some, hM1.2.2.2.2.2.1, nI_add, if_pos (ixT (by have := hM1.2.2.2.2.1; have := q1.1; omega) (by omega)), clT (by have := hM1.2.2.2.2.1; have := q1.1; omega), (hM1.2.2.2.2.2.2.2.2 _ q1.1).2, t1, Option.bind_some]
      · rw [if_neg q1, if_pos rfl, if_neg q1]
    by_cases q1 : dg b L (P + 1)
    · obtain ⟨q11, q12, q13⟩ := q1
      have q1 : dg b L (P + 1) := ⟨q11, q12, q13⟩
      have hC2 := h.cur (q := P + 2) (by omega)
      have hM2 := k.cur (q := P + 2) (by omega)
      have ev : ((10 : Int32) * nI (b P - 48)) + nI (b (P + 1)) - 48 = nI (10 * (b P - 48) + b (P + 1) - 48) := by
        rw [show (10 : Int32) = nI 10 from rfl, pk_mul, nI_add, show (48 : Int32) = nI 48 from rfl, pk_sub (by omega)]
      have ev2 : nI (b P - 48) * 10 + nI (b (P + 1)) - 48 = nI (10 * (b P - 48) + b (P + 1) - 48) := by
        rw [Int32.mul_comm, ev]
      rw [if_pos q1, ev] at m0
      have st1 : fX7_number_l23 1 2 (nI lo) (nI hi) (nI (b P - 48)) 1 (sI σ 1 2 (nI (P + 1))) = some (Sum.inl (nI (10 * (b P - 48) + b (P + 1) - 48), 2, sI σ 1 2 (nI (P + 2)))) := by
        rw [c_numL hC1, if_pos q1, if_neg (by decide), sI_sI, ev2]; rfl
      by_cases q2 : dg b L (P + 2)
      · left
        have st2 : fX7_number_l23 1 2 (nI lo) (nI hi) (nI (10 * (b P - 48) + b (P + 1) - 48)) 2 (sI σ 1 2 (nI (P + 2))) = some (Sum.inr (Sum.inr (sI σ 1 2 (nI (P + 2))))) := by
          rw [c_numL hC2, if_pos q2, if_pos rfl]
        have eC : fX7_number 1 2 (nI lo) (nI hi) σ = some (-1, sI (sI σ 1 2 (nI (P + 2))) 1 3 (nI (P + 2))) := by
          rw [e9]
          unfold fX7_number_w23
          rw [show BIG = 999997 + 1 + 1 + 1 from rfl, whL st0, whL st1, whR st2]
          show (bnd2 (fX7_wrongHere 1 (sI σ 1 2 (nI (P + 2)))) fun vk14 sk14 => some ((-1), sk14)) = _
          rw [c_wrong hC2]
          rfl
        have eM : fX10_number 310 (nI lo) (nI hi) τ = some (0, sI (sI τ 310 10 (nI (P + 2))) 310 11 (nI (P + 2))) := by
          rw [m0]
          unfold fX10_number_b67
          rw [m_isDig hM2, if_pos q2, Option.bind_some, if_neg z1, m_fails hM2 (cf _), bnd2_some]
        exact ⟨P + 2, _, _, _, eC, by rw [gI_sI, if_pos ⟨rfl, rfl⟩], (Sm.rf.sI rfl).sI rfl, eM, by rw [gI_sI, if_pos ⟨rfl, rfl⟩], (Sm.rf.sI rfl).sI rfl, by have := q2.1; omega⟩
      · have st2 : fX7_number_l23 1 2 (nI lo) (nI hi) (nI (10 * (b P - 48) + b (P + 1) - 48)) 2 (sI σ 1 2 (nI (P + 2))) = some (Sum.inr (Sum.inl (nI (10 * (b P - 48) + b (P + 1) - 48), sI σ 1 2 (nI (P + 2))))) := by
          rw [c_numL hC2, if_neg q2]
        have eC : fX7_number 1 2 (nI lo) (nI hi) σ = fX7_number_b98 1 (nI lo) (nI hi) (nI (10 * (b P - 48) + b (P + 1) - 48)) (sI σ 1 2 (nI (P + 2))) := by
          rw [e9]
          unfold fX7_number_w23
          rw [show BIG = 999997 + 1 + 1 + 1 from rfl, whL st0, whL st1, whR st2]
          rfl
        rw [fin_c hC2 (by omega) (by omega) (by omega) (by omega)] at eC
        rw [fin_m hM2 (by omega) (cf _) q2 (by omega) (by omega) (by omega)] at m0
        by_cases z : lo ≤ 10 * (b P - 48) + b (P + 1) - 48 ∧ 10 * (b P - 48) + b (P + 1) - 48 ≤ hi
        · right
          rw [if_pos z] at eC m0
          exact ⟨_, P + 2, z.1, z.2, by omega, by omega, eC, m0⟩
        · left
          rw [if_neg z] at eC m0
          exact ⟨P + 2 - 1, _, _, _, eC, by rw [gI_sI, if_pos ⟨rfl, rfl⟩], (Sm.rf.sI rfl).sI rfl, m0, by rw [gI_sI, if_pos ⟨rfl, rfl⟩], ((Sm.rf.sI rfl).sI rfl).sI rfl, by omega⟩
    · have st1 : fX7_number_l23 1 2 (nI lo) (nI hi) (nI (b P - 48)) 1 (sI σ 1 2 (nI (P + 1))) = some (Sum.inr (Sum.inl (nI (b P - 48), sI σ 1 2 (nI (P + 1))))) := by
        rw [c_numL hC1, if_neg q1]
      have eC : fX7_number 1 2 (nI lo) (nI hi) σ = fX7_number_b98 1 (nI lo) (nI hi) (nI (b P - 48)) (sI σ 1 2 (nI (P + 1))) := by
        rw [e9]
        unfold fX7_number_w23
        rw [show BIG = 999998 + 1 + 1 from rfl, whL st0, whR st1]
        rfl
      rw [if_neg q1] at m0
      rw [fin_c hC1 (by omega) (by omega) (by omega) (by omega)] at eC
      rw [fin_m hM1 (by omega) (cf _) q1 (by omega) (by omega) (by omega)] at m0
      by_cases z : lo ≤ b P - 48 ∧ b P - 48 ≤ hi
      · right
        rw [if_pos z] at eC m0
        exact ⟨_, P + 1, z.1, z.2, by omega, by omega, eC, m0⟩
      · left
        rw [if_neg z] at eC m0
        exact ⟨P + 1 - 1, _, _, _, eC, by rw [gI_sI, if_pos ⟨rfl, rfl⟩], (Sm.rf.sI rfl).sI rfl, m0, by rw [gI_sI, if_pos ⟨rfl, rfl⟩], ((Sm.rf.sI rfl).sI rfl).sI rfl, by omega⟩
  · left
    rw [if_neg q0] at e9
    have eM : fX10_number 310 (nI lo) (nI hi) τ = some (0, sI (sI τ 310 10 (nI P)) 310 11 (nI P)) := by
      unfold fX10_number
      rw [m_look k, bnd2_some, hP, m_isDig hM, if_neg q0, Option.bind_some, if_pos rfl, m_fails hM (cf _), bnd2_some]
    exact ⟨P, _, _, _, e9, by rw [gI_sI, if_pos ⟨rfl, rfl⟩], (Sm.rf.sI rfl).sI rfl, eM, by rw [gI_sI, if_pos ⟨rfl, rfl⟩], (Sm.rf.sI rfl).sI rfl, by omega⟩
end Num
