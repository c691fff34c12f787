/-! count; the calls without a hall -/
section Cnt
variable {σ σ' : Mm} {D np nr W H S acts nl t : Nat} {ru pg rd w : Nat → Int32} {F : Nat → LF} {lw : Option LF} {jl pw : Nat → Nat → Int32} {T : Nat → Nat → Bool}
theorem STEV.non {v : Int32} {c : Option Int32} {m : Option (Int32 × Mm)} (h : CM np nr W H ru pg rd nl F lw D w S jl acts pw σ) (e : EX np nr nl F D σ) (hD : D ≤ 60 * t) (h1 : c = some v) (h2 : m = some (v, sI σ 310 0 0)) : STEV t σ c m :=
  ⟨v, _, h1, h2, _, _, _, _, _, _, _, _, _, _, _, _, _, _, _, _, h.thr, e.thr h.2.1.1.2.1, by omega⟩
theorem m_count10 (g : HB np nr W H ru pg rd) (h : MM σ np nr W H ru pg rd nl F lw w S jl acts pw) : fX10_count_w133 310 0 0 σ = some (fo (fun p acc => acc + w (2 * p)) 0 np, σ) := by
  have g1 := g.1
  unfold fX10_count_w133
  have key : wh (fun a : Int32 × Int32 => fX10_count_l133 310 a.1 a.2 σ) BIG (0, 0) = some (fo (fun p acc => acc + w (2 * p)) 0 np, σ) := by
    refine wh_run (fun i => (fo (fun p acc => acc + w (2 * p)) 0 i, nI i)) np rfl (BIG_lt (by omega)) (fun i hi => ?_) ?_
    · unfold fX10_count_l133
      have e6 : ¬ nI np ≤ nI i := fun z => absurd ((leT (by omega) (by omega)).mp z) (by omega)
      rw [fo_succ]
      simp only [h.1.hm.2.2.1, if_neg e6, h.r33, Option.bind_some, i2p, ln323, ixT (show 2 * i < 351 by omega) (show 351 ≤ 2147483648 by omega), if_true, clT (show 2 * i < 2147483648 by omega), h.2.1 (2 * i) (by omega), nI_1]
    · unfold fX10_count_l133
      simp only [h.1.hm.2.2.1, if_pos (Int32.le_refl (nI np))]
  rw [key]
theorem X_count (h : CM np nr W H ru pg rd nl F lw D w S jl acts pw σ) (e : EX np nr nl F D σ) (hD : D ≤ 60 * t) (x : Int32) : STEV t σ (fX9_count 0 x σ) (fX10_count 310 x σ) := by
  have g := h.g
  have g1 := g.1
  obtain ⟨⟨b, L, e1⟩, e2, e3, ⟨sl, e4, e5, e6⟩, ⟨npl, e7⟩, e8⟩ := id e
  have hM := h.mm.thr
  have r33 := h.mm.r33
  have f0 := h.rf.f0
  unfold fX9_count fX10_count
  by_cases q0 : x = 0
  · rw [if_pos q0, if_pos q0, h.rf.hall, Option.bind_some, h.hc.2.2.2.2.2.2.1, show gI (sI σ 310 0 0) 310 27 = nI np from hM.1.hm.2.2.1]
    exact STEV.non h e hD rfl rfl
  rw [if_neg q0, if_neg q0]
  by_cases q1 : x = 1
  · rw [if_pos q1, if_pos q1, h.rf.hall, Option.bind_some, h.hc.2.2.2.2.2.2.2.1, show gI (sI σ 310 0 0) 310 28 = nI nr from hM.1.hm.2.2.2.1]
    exact STEV.non h e hD rfl rfl
  rw [if_neg q1, if_neg q1]
  by_cases q2 : x = 2
  · rw [if_pos q2, if_pos q2, e2.1, show gI (sI σ 310 0 0) 310 7 = nI nl from by rw [gI_sI, if_neg (by omega)]; exact e2.2.1]
    exact STEV.non h e hD rfl rfl
  rw [if_neg q2, if_neg q2]
  by_cases q3 : x = 3
  · rw [if_pos q3, if_pos q3, e7.2.1, show gI (sI σ 310 0 0) 310 31 = nI npl from by rw [gI_sI, if_neg (by omega)]; exact e7.2.2.1]
    exact STEV.non h e hD rfl rfl
  rw [if_neg q3, if_neg q3]
  by_cases q4 : x = 4
  · rw [if_pos q4, if_pos q4, f0.1, Option.bind_some, e1.2.1, show gI (sI σ 310 0 0) 310 6 = nI L from by rw [gI_sI, if_neg (by omega)]; exact e1.2.2.1]
    exact STEV.non h e hD rfl rfl
  rw [if_neg q4, if_neg q4]
  by_cases q5 : x = 5
  · rw [if_pos q5, if_pos q5, e3, show gI (sI σ 310 0 0) 310 36 = gI σ 310 36 from by rw [gI_sI, if_neg (by omega)]]
    exact STEV.non h e hD rfl rfl
  rw [if_neg q5, if_neg q5]
  by_cases q6 : x = 6
  · rw [if_pos q6, if_pos q6, h.rf.now, Option.bind_some, h.sc.2.2.2.2.2.1, r33, Option.bind_some, ln323, if_pos (by decide), show Int32.toNatClampNeg 109 = 109 by decide, hM.2.1 109 (by omega)]
    exact STEV.non h e hD rfl rfl
  rw [if_neg q6, if_neg q6]
  by_cases q7 : x = 7
  · rw [if_pos q7, if_pos q7, h.rf.hall, Option.bind_some, c_cells g h.hc, Option.bind_some, show gI (sI σ 310 0 0) 310 26 = nI (W * H) from hM.1.hm.2.1]
    exact STEV.non h e hD rfl rfl
  rw [if_neg q7, if_neg q7]
  by_cases q8 : x = 8
  · rw [if_pos q8, if_pos q8, e5, show gI (sI σ 310 0 0) 310 37 = nI sl from by rw [gI_sI, if_neg (by omega)]; exact e6]
    exact STEV.non h e hD rfl rfl
  rw [if_neg q8, if_neg q8]
  by_cases q9 : x = 9
  · rw [if_pos q9, if_pos q9, h.rf.hall, Option.bind_some, h.rf.win, Option.bind_some, h.rf.now, Option.bind_some, c_pagesThere g h.hc h.rf.wr h.rf.sr89 h.sc, Option.bind_some, bc_mk _ (by omega), Option.bind_some, h.hc.2.2.2.2.2.2.1, lost_pages h.wu (by omega), r33, Option.bind_some, M_lost g hM.1.hm ln323 hM.2.1, Option.bind_some]
    exact STEV.non h e hD rfl rfl
  rw [if_neg q9, if_neg q9]
  by_cases qa : x = 10
  · rw [if_pos qa, if_pos qa, h.rf.win, Option.bind_some, h.rf.now, Option.bind_some, c_depthInAll g h.hc h.rf.wr h.rf.sr89 h.sc, Option.bind_some, m_count10 g hM, Option.bind_some]
    exact STEV.non h e hD rfl rfl
  rw [if_neg qa, if_neg qa]
  by_cases qb : x = 11
  · rw [if_pos qb, if_pos qb, h.rf.jou, Option.bind_some, c_told h.jc, Option.bind_some, r33, Option.bind_some, ln323, if_pos (by decide), show Int32.toNatClampNeg 110 = 110 by decide, hM.2.2.1.2.1]
    exact STEV.non h e hD rfl rfl
  rw [if_neg qb, if_neg qb]
  by_cases qc : x = 12
  · rw [if_pos qc, if_pos qc, h.rf.past, Option.bind_some, h.pc.2.1, show gI (sI σ 310 0 0) 310 42 = nI acts from hM.2.2.2.2.1]
    exact STEV.non h e hD rfl rfl
  rw [if_neg qc, if_neg qc]
  exact STEV.non h e hD rfl rfl
end Cnt
section NoHall
variable {σ : Mm} {D np nr W H S acts nl t : Nat} {ru pg rd w : Nat → Int32} {F : Nat → LF} {lw : Option LF} {jl pw : Nat → Nat → Int32}
theorem e27z (h : CM np nr W H ru pg rd nl F lw D w S jl acts pw σ) (hz : ¬ 0 < np) : gI (sI σ 310 0 0) 310 27 = 0 := by
  have := h.mm.thr.1.hm.2.2.1
  rw [this, show np = 0 by omega]; rfl
theorem nr0 (h : CM np nr W H ru pg rd nl F lw D w S jl acts pw σ) (hz : ¬ 0 < np) : nr = 0 := (h.g.2.2.2.2.2.2.2.1 (by omega)).1
theorem Z_hall (h : CM np nr W H ru pg rd nl F lw D w S jl acts pw σ) (hz : ¬ 0 < np) (x : Int32) : WV np nr W H ru pg rd nl F lw σ (fX9_hall 0 x σ) (fX10_hall 310 x σ) := by
  refine WV.t (v := -1) h ?_ ?_
  · unfold fX9_hall; rw [h.rf.hall, Option.bind_some, c_isOpen h.g h.hc, Option.bind_some, if_neg hz, if_pos rfl]
  · unfold fX10_hall; rw [e27z h hz, if_pos (by decide)]
theorem Z_known (h : CM np nr W H ru pg rd nl F lw D w S jl acts pw σ) (hz : ¬ 0 < np) : WV np nr W H ru pg rd nl F lw σ (fX9_known 0 σ) (fX10_known 310 σ) := by
  refine WV.t (v := -1) h ?_ ?_
  · unfold fX9_known; rw [h.rf.hall, Option.bind_some, c_isOpen h.g h.hc, Option.bind_some, if_neg hz, if_pos rfl]
  · unfold fX10_known; rw [e27z h hz, if_pos rfl]
theorem Z_needy (h : CM np nr W H ru pg rd nl F lw D w S jl acts pw σ) (hz : ¬ 0 < np) : WV np nr W H ru pg rd nl F lw σ (fX9_needy 0 σ) (fX10_needy 310 σ) := by
  refine WV.t (v := -1) h ?_ ?_
  · unfold fX9_needy; rw [h.rf.hall, Option.bind_some, c_isOpen h.g h.hc, Option.bind_some, if_neg hz, if_pos rfl]
  · unfold fX10_needy; rw [e27z h hz, if_pos rfl]
theorem Z_sure (h : CM np nr W H ru pg rd nl F lw D w S jl acts pw σ) (hz : ¬ 0 < np) : WV np nr W H ru pg rd nl F lw σ (fX9_sure 0 σ) (fX10_sure 310 σ) := by
  refine WV.t (v := -1) h ?_ ?_
  · unfold fX9_sure; rw [h.rf.hall, Option.bind_some, c_isOpen h.g h.hc, Option.bind_some, if_neg hz, if_pos rfl]
  · unfold fX10_sure; rw [e27z h hz, if_pos rfl]
theorem Z_split (h : CM np nr W H ru pg rd nl F lw D w S jl acts pw σ) (hz : ¬ 0 < np) : WV np nr W H ru pg rd nl F lw σ (fX9_split 0 σ) (fX10_split 310 σ) := by
  refine WV.t (v := -1) h ?_ ?_
  · unfold fX9_split; rw [h.rf.hall, Option.bind_some, c_isOpen h.g h.hc, Option.bind_some, if_neg hz, if_pos rfl]
  · unfold fX10_split; rw [e27z h hz, if_pos rfl]
theorem Z_far (h : CM np nr W H ru pg rd nl F lw D w S jl acts pw σ) (hz : ¬ 0 < np) : WV np nr W H ru pg rd nl F lw σ (fX9_far 0 σ) (fX10_far 310 σ) := by
  refine WV.t (v := -1) h ?_ ?_
  · unfold fX9_far; rw [h.rf.hall, Option.bind_some, c_isOpen h.g h.hc, Option.bind_some, if_neg hz, if_pos rfl]
  · unfold fX10_far; rw [e27z h hz, if_pos rfl]
theorem Z_who (h : CM np nr W H ru pg rd nl F lw D w S jl acts pw σ) (hz : ¬ 0 < np) (x : Int32) : WV np nr W H ru pg rd nl F lw σ (fX9_who 0 x σ) (fX10_who 310 x σ) := by
  refine WV.t (v := -1) h ?_ ?_
  · unfold fX9_who; rw [h.rf.hall, Option.bind_some, c_isOpen h.g h.hc, Option.bind_some, if_neg hz, if_pos rfl]
  · unfold fX10_who; rw [e27z h hz, if_pos rfl]
theorem Z_left (h : CM np nr W H ru pg rd nl F lw D w S jl acts pw σ) (hz : ¬ 0 < np) (x : Int32) : WQ np nr W H ru pg rd nl F lw σ (fX9_left 0 x σ) (fX10_left 310 x) := by
  refine WQ.t (v := -1) h ?_ ?_
  · unfold fX9_left; rw [h.rf.hall, Option.bind_some, c_isOpen h.g h.hc, Option.bind_some, if_neg hz, if_pos rfl]
  · unfold fX10_left; rw [e27z h hz, if_pos rfl]
theorem Z_share (h : CM np nr W H ru pg rd nl F lw D w S jl acts pw σ) (hz : ¬ 0 < np) (x y : Int32) : WQ np nr W H ru pg rd nl F lw σ (fX9_share 0 x y σ) (fX10_share 310 x y) := by
  refine WQ.t (v := -1) h ?_ ?_
  · unfold fX9_share; rw [h.rf.hall, Option.bind_some, c_isOpen h.g h.hc, Option.bind_some, if_neg hz, if_pos rfl]
  · unfold fX10_share; rw [e27z h hz, if_pos rfl]
theorem Z_night (h : CM np nr W H ru pg rd nl F lw D w S jl acts pw σ) (hz : ¬ 0 < np) : WK np nr W H ru pg rd nl F lw D σ (fX9_night 0 σ) (fX10_night 310) := by
  refine WK.non (v := -1) h ?_ ?_
  · unfold fX9_night; rw [h.rf.win, Option.bind_some, h.rf.now, Option.bind_some, c_may_night h.g h.hc h.rf.wr, Option.bind_some, if_neg hz, if_pos rfl]
  · unfold fX10_night; rw [e27z h hz, if_pos rfl]
theorem Z_cent (h : CM np nr W H ru pg rd nl F lw D w S jl acts pw σ) (hz : ¬ 0 < np) (x : Int32) (s : Int64) : WK np nr W H ru pg rd nl F lw D σ (fX9_centuries 0 x s σ) (fX10_centuries 310 x s) := by
  refine WK.non (v := -1) h ?_ ?_
  · unfold fX9_centuries; rw [h.rf.hall, Option.bind_some, c_isOpen h.g h.hc, Option.bind_some, if_neg hz, if_pos rfl]
  · unfold fX10_centuries; rw [e27z h hz, if_pos rfl]
theorem Z_image (h : CM np nr W H ru pg rd nl F lw D w S jl acts pw σ) (e : EX np nr nl F D σ) (hD : D ≤ 60 * t) (hz : ¬ 0 < np) : STEP t σ (fX9_image 0 σ) (fX10_image 310) := by
  refine STEP.non (v := -1) h e hD ?_ ?_
  · unfold fX9_image; rw [h.rf.hall, Option.bind_some, c_isOpen h.g h.hc, Option.bind_some, if_neg hz, if_pos rfl]
  · unfold fX10_image; rw [e27z h hz, if_pos rfl]
theorem Z_go (h : CM np nr W H ru pg rd nl F lw D w S jl acts pw σ) (hz : ¬ 0 < np) (x y : Int32) : WK np nr W H ru pg rd nl F lw D σ (fX9_go 0 x y σ) (fX10_go 310 x y) := by
  have hx : ¬ ∃ r, r < nr ∧ x = nI r := by rw [nr0 h hz]; exact fun ⟨r, hr, _⟩ => by omega
  refine WK.non (v := -1) h ?_ ?_
  · unfold fX9_go
    rw [h.rf.win, Option.bind_some, h.rf.now, Option.bind_some, c_may_none h.g h.hc h.rf.wr (by decide) (by decide) hx, Option.bind_some, if_pos rfl]
  · unfold fX10_go
    rw [h.mm.r33, Option.bind_some, m_canGo_out h.g h.mm.thr.1.hm ln323 h.mm.thr.2.1 (Or.inl hx), Option.bind_some, if_pos rfl]
end NoHall
