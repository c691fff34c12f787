/-! reader: what both answer -/
section Reader
variable {σ τ : Mm} {D np nr W H S acts nl t : Nat} {ru pg rd w : Nat → Int32} {F : Nat → LF} {lw : Option LF} {jl pw : Nat → Nat → Int32} {z : Bool}
def rdV (rd w : Nat → Int32) (r k : Nat) : Int32 := if k = 0 then w (24 + 14 * r) else if k = 4 then w (25 + 14 * r) else if k = 5 then sKn w r else rd (4 * r + k)
theorem m_reader (h : CM np nr W H ru pg rd nl F lw D w S jl acts pw σ) {r k : Nat} (hr : r < nr) (hk : k ≤ 5) : fX10_reader 310 (nI r) (nI k) σ = some (rdV rd w r k, sI σ 310 0 0) := by
  have g := h.g
  have g2 := g.2.1
  have hM := h.mm.thr
  have r22 : gR σ 310 22 = some 319 := h.mm.1.hm.1.2.2.2.2.2.2.2.2.2.2.1
  have hin : fX10_isIn (Int32.toInt64 (nI k)) 0 5 σ = some 1 := isInT (a := 0) (b := 5) ⟨k, by omega, hk, rfl⟩ (by omega)
  have z0 : gI (sI σ 310 0 0) 310 0 ≤ 0 := by rw [gI_sI, if_pos ⟨rfl, rfl⟩]; decide
  have i5 : (24 : Int32) + 14 * nI r + 1 = nI (25 + 14 * r) := by rw [show (24 : Int32) = nI 24 from rfl, show (14 : Int32) = nI 14 from rfl, pk_mul, nI_add, nI_1]; exact congrArg nI (by omega)
  have i4 : (4 : Int32) * nI r + nI k = nI (4 * r + k) := by rw [show (4 : Int32) = nI 4 from rfl, pk_mul, nI_add]
  have c5 : Int32.toNatClampNeg (nI (25 + 14 * r)) = 25 + 14 * r := clT (by omega)
  have c4 : Int32.toNatClampNeg (nI (4 * r + k)) = 4 * r + k := clT (by omega)
  unfold fX10_reader fX10_reader_b26 rdV
  rw [m_isReader g h.mm.1.hm hr, Option.bind_some, if_neg z1, hin, Option.bind_some, if_neg z1, if_pos z0]
  by_cases q0 : k = 0
  · subst q0
    rw [if_pos (show nI 0 = 0 from rfl), if_pos rfl, h.mm.r33, Option.bind_some, m_cellOf ln323 (by omega), Option.bind_some, hM.2.1 _ (by omega)]
  rw [if_neg (show ¬ nI k = 0 from fun z => q0 ((eqT (b := 0) (by omega) (by omega)).mp z)), if_neg q0]
  by_cases q4 : k = 4
  · subst q4
    rw [if_pos (show nI 4 = 4 from rfl), if_pos rfl, h.mm.r33, Option.bind_some, i5, ln323, if_pos (ixT (by omega) (by omega)), c5, hM.2.1 _ (by omega)]
  rw [if_neg (show ¬ nI k = 4 from fun z => q4 ((eqT (b := 4) (by omega) (by omega)).mp z)), if_neg q4]
  by_cases q5 : k = 5
  · subst q5
    rw [if_pos (show nI 5 = 5 from rfl), if_pos rfl, h.mm.r33, Option.bind_some, m_knownBits ln323 hM.2.1 h.wu (by omega), Option.bind_some]
  rw [if_neg (show ¬ nI k = 5 from fun z => q5 ((eqT (b := 5) (by omega) (by omega)).mp z)), if_neg q5, r22, Option.bind_some, i4, lnM.2.2.2.2.2.2.2.2.1, if_pos (ixT (by omega) (by omega)), c4, hM.1.hm.2.2.2.2.2.2 _ (by omega)]
theorem m_reader_out (h : CMz z np nr W H ru pg rd nl F lw D w S jl acts pw σ) {x y : Int32} (hxy : ¬ ((∃ r, r < nr ∧ x = nI r) ∧ ∃ k, 0 ≤ k ∧ k ≤ 5 ∧ y = nI k)) : fX10_reader 310 x y σ = some (0, sI σ 310 0 1) := by
  have g := h.g
  have z0 : ¬ gI (sI σ 310 0 1) 310 0 ≤ 0 := by rw [gI_sI, if_pos ⟨rfl, rfl⟩]; decide
  have b : fX10_reader_b25 310 x y 310 σ = some (0, sI σ 310 0 1) := by
    unfold fX10_reader_b25 fX10_reader_b26
    rw [if_neg z0]
  unfold fX10_reader
  by_cases hx : ∃ r, r < nr ∧ x = nI r
  · obtain ⟨r, hr, rfl⟩ := hx
    have hin : fX10_isIn (Int32.toInt64 y) 0 5 σ = some 0 := isInF (a := 0) (b := 5) (fun z => hxy ⟨⟨r, hr, rfl⟩, z⟩) (by omega) (by omega)
    rw [m_isReader g h.mm.1.hm hr, Option.bind_some, if_neg z1, hin, Option.bind_some, if_pos rfl]
    exact b
  · rw [m_isReader_out g h.mm.1.hm hx, Option.bind_some, if_pos rfl]
    exact b
/-- the class's side: does it throw, and if not, what it answers; the pieces that its body asks -/
theorem c_reader (h : CM np nr W H ru pg rd nl F lw D w S jl acts pw σ) {r : Nat} (hr : r < nr) : fX1_hasReader 3 (nI r) σ = some 1 ∧ gI σ 92 r = rdV rd w r 0 ∧ fX1_breath 3 (nI r) σ = some (rdV rd w r 1) ∧ fX1_speed 3 (nI r) σ = some (rdV rd w r 2) ∧ fX1_need 3 (nI r) σ = some (rdV rd w r 3) ∧ fX6_hasDone 89 (nI r) σ = some (rdV rd w r 4) ∧ fX6_pagesKnownBy 89 (nI r) σ = some (rdV rd w r 5) := by
  have g := h.g
  have g2 := g.2.1
  unfold rdV
  exact ⟨c_hasReader g h.hc hr, h.sc.2.2.1 r (by omega), c_breath g h.hc hr, c_speed g h.hc hr, c_need g h.hc hr, c_hasDone h.sc (by omega), c_pagesKnownBy h.rf.sr89 h.sc (by omega)⟩
/-- thrown or not is the model's own note; what holds, holds again -/
theorem ALL.note {v : Int32} (h : CMz z np nr W H ru pg rd nl F lw D w S jl acts pw σ) (hz : z = true ∨ np = 0) (e : EX np nr nl F D σ) (hD : D ≤ 60 * t) : ALL (t + 1) (sI σ 310 0 v) := by
  have s : Sm sT σ (sI σ 310 0 v) := Sm.rf.sI rfl
  refine ⟨_, _, _, _, _, _, _, _, _, _, _, _, _, _, _, _, _, h.ag2 s (fun c k hc => by unfold kCC at hc; unfold sT; simp at hc ⊢; omega) kMM_sT (fun k => ⟨rfl, rfl⟩), hz, e.sm h.2.1.1.2.1 (Nat.le_refl _) s (fun c k hc => by unfold exK at hc; unfold sT; simp at hc ⊢; omega), by omega⟩
end Reader
