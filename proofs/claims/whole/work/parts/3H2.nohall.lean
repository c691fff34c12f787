/-! the calls without a hall -/
section NoHall
variable {σ : Mm} {D np nr W H S acts nl t : Nat} {ru pg rd w : Nat → Int32} {F : Nat → LF} {lw : Option LF} {jl pw : Nat → Nat → Int32} {z : Bool}
theorem e27z (h : CMz z np nr W H ru pg rd nl F lw D w S jl acts pw σ) (hz : ¬ 0 < np) : gI (sI σ 310 0 0) 310 27 = 0 := by
  have := h.mm.thr.1.hm.2.2.1
  rw [this, show np = 0 by omega]; rfl
theorem nr0 (h : CMz z np nr W H ru pg rd nl F lw D w S jl acts pw σ) (hz : ¬ 0 < np) : nr = 0 := (h.g.2.2.2.2.2.2.2.1 (by omega)).1
theorem Z_hall (h : CMz z np nr W H ru pg rd nl F lw D w S jl acts pw σ) (e : EX np nr nl F D σ) (hD : D ≤ 60 * t) (hz : ¬ 0 < np) (x : Int32) : STEV t σ (fX9_hall 0 x σ) (fX10_hall 310 x σ) := by
  refine STEV.non (v := -1) h (Or.inr (by omega)) e hD ?_ ?_
  · unfold fX9_hall; rw [h.rf.hall, Option.bind_some, c_isOpen h.g h.hc, Option.bind_some, if_neg hz, if_pos rfl]
  · unfold fX10_hall; rw [e27z h hz, if_pos (by decide)]
theorem Z_known (h : CMz z np nr W H ru pg rd nl F lw D w S jl acts pw σ) (e : EX np nr nl F D σ) (hD : D ≤ 60 * t) (hz : ¬ 0 < np) : STEV t σ (fX9_known 0 σ) (fX10_known 310 σ) := by
  refine STEV.non (v := -1) h (Or.inr (by omega)) e hD ?_ ?_
  · unfold fX9_known; rw [h.rf.hall, Option.bind_some, c_isOpen h.g h.hc, Option.bind_some, if_neg hz, if_pos rfl]
  · unfold fX10_known; rw [e27z h hz, if_pos rfl]
theorem Z_needy (h : CMz z np nr W H ru pg rd nl F lw D w S jl acts pw σ) (e : EX np nr nl F D σ) (hD : D ≤ 60 * t) (hz : ¬ 0 < np) : STEV t σ (fX9_needy 0 σ) (fX10_needy 310 σ) := by
  refine STEV.non (v := -1) h (Or.inr (by omega)) e hD ?_ ?_
  · unfold fX9_needy; rw [h.rf.hall, Option.bind_some, c_isOpen h.g h.hc, Option.bind_some, if_neg hz, if_pos rfl]
  · unfold fX10_needy; rw [e27z h hz, if_pos rfl]
theorem Z_sure (h : CMz z np nr W H ru pg rd nl F lw D w S jl acts pw σ) (e : EX np nr nl F D σ) (hD : D ≤ 60 * t) (hz : ¬ 0 < np) : STEV t σ (fX9_sure 0 σ) (fX10_sure 310 σ) := by
  refine STEV.non (v := -1) h (Or.inr (by omega)) e hD ?_ ?_
  · unfold fX9_sure; rw [h.rf.hall, Option.bind_some, c_isOpen h.g h.hc, Option.bind_some, if_neg hz, if_pos rfl]
  · unfold fX10_sure; rw [e27z h hz, if_pos rfl]
theorem Z_split (h : CMz z np nr W H ru pg rd nl F lw D w S jl acts pw σ) (e : EX np nr nl F D σ) (hD : D ≤ 60 * t) (hz : ¬ 0 < np) : STEV t σ (fX9_split 0 σ) (fX10_split 310 σ) := by
  refine STEV.non (v := -1) h (Or.inr (by omega)) e hD ?_ ?_
  · unfold fX9_split; rw [h.rf.hall, Option.bind_some, c_isOpen h.g h.hc, Option.bind_some, if_neg hz, if_pos rfl]
  · unfold fX10_split; rw [e27z h hz, if_pos rfl]
theorem Z_far (h : CMz z np nr W H ru pg rd nl F lw D w S jl acts pw σ) (e : EX np nr nl F D σ) (hD : D ≤ 60 * t) (hz : ¬ 0 < np) : STEV t σ (fX9_far 0 σ) (fX10_far 310 σ) := by
  refine STEV.non (v := -1) h (Or.inr (by omega)) e hD ?_ ?_
  · unfold fX9_far; rw [h.rf.hall, Option.bind_some, c_isOpen h.g h.hc, Option.bind_some, if_neg hz, if_pos rfl]
  · unfold fX10_far; rw [e27z h hz, if_pos rfl]
theorem Z_who (h : CMz z np nr W H ru pg rd nl F lw D w S jl acts pw σ) (e : EX np nr nl F D σ) (hD : D ≤ 60 * t) (hz : ¬ 0 < np) (x : Int32) : STEV t σ (fX9_who 0 x σ) (fX10_who 310 x σ) := by
  refine STEV.non (v := -1) h (Or.inr (by omega)) e hD ?_ ?_
  · unfold fX9_who; rw [h.rf.hall, Option.bind_some, c_isOpen h.g h.hc, Option.bind_some, if_neg hz, if_pos rfl]
  · unfold fX10_who; rw [e27z h hz, if_pos rfl]
theorem Z_left (h : CMz z np nr W H ru pg rd nl F lw D w S jl acts pw σ) (e : EX np nr nl F D σ) (hD : D ≤ 60 * t) (hz : ¬ 0 < np) (x : Int32) : STEP t σ (fX9_left 0 x σ) (fX10_left 310 x) := by
  refine STEP.non (v := -1) h (Or.inr (by omega)) e hD ?_ ?_
  · unfold fX9_left; rw [h.rf.hall, Option.bind_some, c_isOpen h.g h.hc, Option.bind_some, if_neg hz, if_pos rfl]
  · unfold fX10_left; rw [e27z h hz, if_pos rfl]
theorem Z_share (h : CMz z np nr W H ru pg rd nl F lw D w S jl acts pw σ) (e : EX np nr nl F D σ) (hD : D ≤ 60 * t) (hz : ¬ 0 < np) (x y : Int32) : STEP t σ (fX9_share 0 x y σ) (fX10_share 310 x y) := by
  refine STEP.non (v := -1) h (Or.inr (by omega)) e hD ?_ ?_
  · unfold fX9_share; rw [h.rf.hall, Option.bind_some, c_isOpen h.g h.hc, Option.bind_some, if_neg hz, if_pos rfl]
  · unfold fX10_share; rw [e27z h hz, if_pos rfl]
theorem Z_night (h : CMz z np nr W H ru pg rd nl F lw D w S jl acts pw σ) (e : EX np nr nl F D σ) (hD : D ≤ 60 * t) (hz : ¬ 0 < np) : STEP t σ (fX9_night 0 σ) (fX10_night 310) := by
  refine STEP.non (v := -1) h (Or.inr (by omega)) e hD ?_ ?_
  · unfold fX9_night; rw [h.rf.win, Option.bind_some, h.rf.now, Option.bind_some, c_may_night h.g h.hc h.rf.wr, Option.bind_some, if_neg hz, if_pos rfl]
  · unfold fX10_night; rw [e27z h hz, if_pos rfl]
theorem Z_cent (h : CMz z np nr W H ru pg rd nl F lw D w S jl acts pw σ) (e : EX np nr nl F D σ) (hD : D ≤ 60 * t) (hz : ¬ 0 < np) (x : Int32) (s : Int64) : STEP t σ (fX9_centuries 0 x s σ) (fX10_centuries 310 x s) := by
  refine STEP.non (v := -1) h (Or.inr (by omega)) e hD ?_ ?_
  · unfold fX9_centuries; rw [h.rf.hall, Option.bind_some, c_isOpen h.g h.hc, Option.bind_some, if_neg hz, if_pos rfl]
  · unfold fX10_centuries; rw [e27z h hz, if_pos rfl]
theorem Z_image (h : CMz z np nr W H ru pg rd nl F lw D w S jl acts pw σ) (e : EX np nr nl F D σ) (hD : D ≤ 60 * t) (hz : ¬ 0 < np) : STEP t σ (fX9_image 0 σ) (fX10_image 310) := by
  refine STEP.non (v := -1) h (Or.inr (by omega)) e hD ?_ ?_
  · unfold fX9_image; rw [h.rf.hall, Option.bind_some, c_isOpen h.g h.hc, Option.bind_some, if_neg hz, if_pos rfl]
  · unfold fX10_image; rw [e27z h hz, if_pos rfl]
theorem Z_go (h : CMz z np nr W H ru pg rd nl F lw D w S jl acts pw σ) (e : EX np nr nl F D σ) (hD : D ≤ 60 * t) (hz : ¬ 0 < np) (x y : Int32) : STEP t σ (fX9_go 0 x y σ) (fX10_go 310 x y) := by
  have hx : ¬ ∃ r, r < nr ∧ x = nI r := by rw [nr0 h hz]; exact fun ⟨r, hr, _⟩ => by omega
  refine STEP.non (v := -1) h (Or.inr (by omega)) e hD ?_ ?_
  · unfold fX9_go
    rw [h.rf.win, Option.bind_some, h.rf.now, Option.bind_some, c_may_none h.g h.hc h.rf.wr (by decide) (by decide) hx, Option.bind_some, if_pos rfl]
  · unfold fX10_go
    rw [h.mm.r33, Option.bind_some, m_canGo_out h.g h.mm.thr.1.hm ln323 h.mm.thr.2.1 (Or.inl hx), Option.bind_some, if_pos rfl]
end NoHall
