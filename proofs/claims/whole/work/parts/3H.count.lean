/-! count; the calls without a hall -/
section Cnt
variable {σ σ' : Mm} {D np nr W H S acts nl t : Nat} {ru pg rd w : Nat → Int32} {F : Nat → LF} {lw : Option LF} {jl pw : Nat → Nat → Int32} {T : Nat → Nat → Bool} {z : Bool}
theorem STEV.non {v : Int32} {c : Option Int32} {m : Option (Int32 × Mm)} (h : CMz z np nr W H ru pg rd nl F lw D w S jl acts pw σ) (hz : z = true ∨ np = 0) (e : EX np nr nl F D σ) (hD : D ≤ 60 * t) (h1 : c = some v) (h2 : m = some (v, sI σ 310 0 0)) : STEV t σ c m :=
  ⟨v, _, h1, h2, _, _, _, _, _, _, _, _, _, _, _, _, _, _, _, _, _, h.thr, hz, e.thr h.2.1.1.2.1, by omega⟩
theorem m_count10 (g : HB np nr W H ru pg rd) (h : MM σ np nr W H ru pg rd nl F lw w S jl acts pw) : fX10_count_w133 310 0 0 σ = some (fo (fun p acc => acc + w (2 * p)) 0 np, σ) := by
  have g1 := g.1
  unfold fX10_count_w133
  have key : wh (fun a : Int32 × Int32 => fX10_count_l133 310 a.1 a.2 σ) BIG (0, 0) = some (fo (fun p acc => acc + w (2 * p)) 0 np, σ) := by
    refine wh_run (fun i => (fo (fun p acc => acc + w (2 * p)) 0 i, nI i)) np rfl (BIG_lt (by omega)) (fun i hi => ?_) ?_
    · unfold fX10_count_l133
      have e6 : ¬ nI np ≤ nI i := fun z => absurd ((leT (by omega) (by omega)).mp z) (by omega)
      rw [fo_succ]
      simp only [h.1.hm.2.2.1, if_neg e6, h.r33, Option.bind_some, i2p, ln323, ixT (show 2 * i < 351 by omega) (show 351 ≤ 2147483648 by omega), if_true, clT (show 2 * i < 2147483648 by omega), h.2.1 (2 * i) (by omega), nI_1]
    · unfold fX10_count_l133
      simp only [h.1.hm.2.2.1, if_pos (Int32.le_refl (nI np))]
  rw [key]
theorem X_count (h : CMz z np nr W H ru pg rd nl F lw D w S jl acts pw σ) (hz : z = true ∨ np = 0) (e : EX np nr nl F D σ) (hD : D ≤ 60 * t) (x : Int32) : STEV t σ (fX9_count 0 x σ) (fX10_count 310 x σ) := by
  have g := h.g
  have g1 := g.1
  obtain ⟨⟨b, L, e1⟩, e2, e3, ⟨sl, e4, e5, e6⟩, ⟨npl, e7⟩, e8⟩ := id e
  have hM := h.mm.thr
  have r33 := h.mm.r33
  have f0 := h.rf.f0
  have cp : fX8_pagesThere 11 89 σ = some (mk (fun p => decide (¬ w (2 * p) ≤ 0)) np) := by
    rcases hz with y | y
    · exact c_pagesThere g h.hc h.rf.wr h.rf.sr89 (h.cm y).sc
    · subst y
      have : fX8_pagesThere_l4 11 89 0 0 σ = some (Sum.inr 0) := by
        unfold fX8_pagesThere_l4
        rw [h.rf.wr.1, Option.bind_some, h.hc.2.2.2.2.2.2.1, if_pos (by decide)]
      unfold fX8_pagesThere fX8_pagesThere_w4
      have e2 : wh (fun a : Int32 × Int32 => fX8_pagesThere_l4 11 89 a.1 a.2 σ) BIG (0, 0) = some 0 := by
        show wh _ (999999 + 1) _ = _
        exact whR this
      rw [e2]; rfl
  have cd : fX8_depthInAll 11 89 σ = some (fo (fun p acc => acc + w (2 * p)) 0 np) := by
    rcases hz with y | y
    · exact c_depthInAll g h.hc h.rf.wr h.rf.sr89 (h.cm y).sc
    · subst y
      have : fX8_depthInAll_l4 11 89 0 0 σ = some (Sum.inr 0) := by
        unfold fX8_depthInAll_l4
        rw [h.rf.wr.1, Option.bind_some, h.hc.2.2.2.2.2.2.1, if_pos (by decide)]
      unfold fX8_depthInAll fX8_depthInAll_w4
      have e2 : wh (fun a : Int32 × Int32 => fX8_depthInAll_l4 11 89 a.1 a.2 σ) BIG (0, 0) = some 0 := by
        show wh _ (999999 + 1) _ = _
        exact whR this
      rw [e2]; rfl
  unfold fX9_count fX10_count
  by_cases q0 : x = 0
  · rw [if_pos q0, if_pos q0, h.rf.hall, Option.bind_some, h.hc.2.2.2.2.2.2.1, show gI (sI σ 310 0 0) 310 27 = nI np from hM.1.hm.2.2.1]
    exact STEV.non h hz e hD rfl rfl
  rw [if_neg q0, if_neg q0]
  by_cases q1 : x = 1
  · rw [if_pos q1, if_pos q1, h.rf.hall, Option.bind_some, h.hc.2.2.2.2.2.2.2.1, show gI (sI σ 310 0 0) 310 28 = nI nr from hM.1.hm.2.2.2.1]
    exact STEV.non h hz e hD rfl rfl
  rw [if_neg q1, if_neg q1]
  by_cases q2 : x = 2
  · rw [if_pos q2, if_pos q2, e2.1, show gI (sI σ 310 0 0) 310 7 = nI nl from by rw [gI_sI, if_neg (by omega)]; exact e2.2.1]
    exact STEV.non h hz e hD rfl rfl
  rw [if_neg q2, if_neg q2]
  by_cases q3 : x = 3
  · rw [if_pos q3, if_pos q3, e7.2.1, show gI (sI σ 310 0 0) 310 31 = nI npl from by rw [gI_sI, if_neg (by omega)]; exact e7.2.2.1]
    exact STEV.non h hz e hD rfl rfl
  rw [if_neg q3, if_neg q3]
  by_cases q4 : x = 4
  · rw [if_pos q4, if_pos q4, f0.1, Option.bind_some, e1.2.1, show gI (sI σ 310 0 0) 310 6 = nI L from by rw [gI_sI, if_neg (by omega)]; exact e1.2.2.1]
    exact STEV.non h hz e hD rfl rfl
  rw [if_neg q4, if_neg q4]
  by_cases q5 : x = 5
  · rw [if_pos q5, if_pos q5, e3, show gI (sI σ 310 0 0) 310 36 = gI σ 310 36 from by rw [gI_sI, if_neg (by omega)]]
    exact STEV.non h hz e hD rfl rfl
  rw [if_neg q5, if_neg q5]
  by_cases q6 : x = 6
  · rw [if_pos q6, if_pos q6, h.rf.now, Option.bind_some, show gI σ 89 6 = w 109 from h.1.2.2.2.2.1.1, r33, Option.bind_some, ln323, if_pos (by decide), show Int32.toNatClampNeg 109 = 109 by decide, hM.2.1 109 (by omega)]
    exact STEV.non h hz e hD rfl rfl
  rw [if_neg q6, if_neg q6]
  by_cases q7 : x = 7
  · rw [if_pos q7, if_pos q7, h.rf.hall, Option.bind_some, c_cells g h.hc, Option.bind_some, show gI (sI σ 310 0 0) 310 26 = nI (W * H) from hM.1.hm.2.1]
    exact STEV.non h hz e hD rfl rfl
  rw [if_neg q7, if_neg q7]
  by_cases q8 : x = 8
  · rw [if_pos q8, if_pos q8, e5, show gI (sI σ 310 0 0) 310 37 = nI sl from by rw [gI_sI, if_neg (by omega)]; exact e6]
    exact STEV.non h hz e hD rfl rfl
  rw [if_neg q8, if_neg q8]
  by_cases q9 : x = 9
  · rw [if_pos q9, if_pos q9, h.rf.hall, Option.bind_some, h.rf.win, Option.bind_some, h.rf.now, Option.bind_some, cp, Option.bind_some, bc_mk _ (by omega), Option.bind_some, h.hc.2.2.2.2.2.2.1, lost_pages h.wu (by omega), r33, Option.bind_some, M_lost g hM.1.hm ln323 hM.2.1, Option.bind_some]
    exact STEV.non h hz e hD rfl rfl
  rw [if_neg q9, if_neg q9]
  by_cases qa : x = 10
  · rw [if_pos qa, if_pos qa, h.rf.win, Option.bind_some, h.rf.now, Option.bind_some, cd, Option.bind_some, m_count10 g hM, Option.bind_some]
    exact STEV.non h hz e hD rfl rfl
  rw [if_neg qa, if_neg qa]
  by_cases qb : x = 11
  · rw [if_pos qb, if_pos qb, h.rf.jou, Option.bind_some, c_told h.jc, Option.bind_some, r33, Option.bind_some, ln323, if_pos (by decide), show Int32.toNatClampNeg 110 = 110 by decide, hM.2.2.1.2.1]
    exact STEV.non h hz e hD rfl rfl
  rw [if_neg qb, if_neg qb]
  by_cases qc : x = 12
  · rw [if_pos qc, if_pos qc, h.rf.past, Option.bind_some, h.pc.2.1, show gI (sI σ 310 0 0) 310 42 = nI acts from hM.2.2.2.2.1]
    exact STEV.non h hz e hD rfl rfl
  rw [if_neg qc, if_neg qc]
  exact STEV.non h hz e hD rfl rfl
end Cnt
