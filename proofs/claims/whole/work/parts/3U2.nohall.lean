/-! more calls without a hall -/
section NoHall2
variable {σ : Mm} {D np nr W H S acts nl t : Nat} {ru pg rd w : Nat → Int32} {F : Nat → LF} {lw : Option LF} {jl pw : Nat → Nat → Int32} {z : Bool}
theorem noP (hz : ¬ 0 < np) (x : Int32) : ¬ ∃ p, p < np ∧ x = nI p := fun ⟨p, hp, _⟩ => by omega
theorem noR (h : CMz z np nr W H ru pg rd nl F lw D w S jl acts pw σ) (hz : ¬ 0 < np) (x : Int32) : ¬ ∃ p, p < nr ∧ x = nI p := by rw [nr0 h hz]; exact fun ⟨p, hp, _⟩ => by omega
theorem noC (h : CMz z np nr W H ru pg rd nl F lw D w S jl acts pw σ) (hz : ¬ 0 < np) (x : Int32) : ¬ ∃ c, c < W * H ∧ x = nI c := by
  obtain ⟨a, b, c⟩ := h.g.2.2.2.2.2.2.2.1 (by omega)
  rw [b, Nat.zero_mul]
  exact fun ⟨p, hp, _⟩ => by omega
theorem Z_page (h : CMz z np nr W H ru pg rd nl F lw D w S jl acts pw σ) (e : EX np nr nl F D σ) (hD : D ≤ 60 * t) (hz : ¬ 0 < np) (x y : Int32) : STEV t σ (fX9_page 0 x y σ) (fX10_page 310 x y σ) := by
  refine STEV.non (v := -1) h (Or.inr (by omega)) e hD ?_ ?_
  · unfold fX9_page; rw [h.rf.hall, Option.bind_some, c_hasPage_out h.g h.hc (noP hz x), Option.bind_some, if_pos rfl]
  · unfold fX10_page; rw [m_isPage_out h.g h.mm.thr.1.hm (noP hz x), Option.bind_some, if_pos rfl]
theorem Z_memory (h : CMz z np nr W H ru pg rd nl F lw D w S jl acts pw σ) (e : EX np nr nl F D σ) (hD : D ≤ 60 * t) (hz : ¬ 0 < np) (x y : Int32) : STEV t σ (fX9_memory 0 x y σ) (fX10_memory 310 x y σ) := by
  refine STEV.non (v := -1) h (Or.inr (by omega)) e hD ?_ ?_
  · unfold fX9_memory; rw [h.rf.hall, Option.bind_some, c_hasReader_out h.g h.hc (noR h hz x), Option.bind_some, if_pos rfl]
  · unfold fX10_memory; rw [m_isReader_out h.g h.mm.thr.1.hm (noR h hz x), Option.bind_some, if_pos rfl]
theorem Z_melt (h : CMz z np nr W H ru pg rd nl F lw D w S jl acts pw σ) (e : EX np nr nl F D σ) (hD : D ≤ 60 * t) (hz : ¬ 0 < np) (x y u : Int32) : STEP t σ (fX9_melt 0 x y u σ) (fX10_melt 310 x y u) := by
  refine STEP.non (v := -1) h (Or.inr (by omega)) e hD ?_ ?_
  · unfold fX9_melt; rw [h.rf.hall, Option.bind_some, c_hasReader_out h.g h.hc (noR h hz x), Option.bind_some, if_pos rfl]
  · unfold fX10_melt; rw [m_isReader_out h.g h.mm.thr.1.hm (noR h hz x), Option.bind_some, if_pos rfl]
theorem Z_read (h : CMz z np nr W H ru pg rd nl F lw D w S jl acts pw σ) (e : EX np nr nl F D σ) (hD : D ≤ 60 * t) (hz : ¬ 0 < np) (x y : Int32) : STEP t σ (fX9_read 0 x y σ) (fX10_read 310 x y) := by
  refine STEP.non (v := -1) h (Or.inr (by omega)) e hD ?_ ?_
  · unfold fX9_read; rw [h.rf.win, Option.bind_some, h.rf.now, Option.bind_some, c_may_none h.g h.hc h.rf.wr (by decide) (by decide) (noR h hz x), Option.bind_some, if_pos rfl]
  · unfold fX10_read; rw [h.mm.r33, Option.bind_some, m_canRead_out h.g h.mm.thr.1.hm ln323 h.mm.thr.2.1 (Or.inl (noR h hz x)), Option.bind_some, if_pos rfl]
theorem Z_recut (h : CMz z np nr W H ru pg rd nl F lw D w S jl acts pw σ) (e : EX np nr nl F D σ) (hD : D ≤ 60 * t) (hz : ¬ 0 < np) (x y : Int32) : STEP t σ (fX9_recut 0 x y σ) (fX10_recut 310 x y) := by
  refine STEP.non (v := -1) h (Or.inr (by omega)) e hD ?_ ?_
  · unfold fX9_recut; rw [h.rf.win, Option.bind_some, h.rf.now, Option.bind_some, c_may_none h.g h.hc h.rf.wr (by decide) (by decide) (noR h hz x), Option.bind_some, if_pos rfl]
  · unfold fX10_recut; rw [h.mm.r33, Option.bind_some, m_canRecut_out h.g h.mm.thr.1.hm ln323 h.mm.thr.2.1 (Or.inl (noR h hz x)), Option.bind_some, if_pos rfl]
theorem Z_tell (h : CMz z np nr W H ru pg rd nl F lw D w S jl acts pw σ) (e : EX np nr nl F D σ) (hD : D ≤ 60 * t) (hz : ¬ 0 < np) (x y : Int32) : STEP t σ (fX9_tell 0 x y σ) (fX10_tell 310 x y) := by
  refine STEP.non (v := -1) h (Or.inr (by omega)) e hD ?_ ?_
  · unfold fX9_tell; rw [h.rf.win, Option.bind_some, h.rf.now, Option.bind_some, c_may_none h.g h.hc h.rf.wr (by decide) (by decide) (noR h hz x), Option.bind_some, if_pos rfl]
  · unfold fX10_tell fX10_canDo; rw [h.mm.r33, Option.bind_some, m_isReader_out h.g h.mm.thr.1.hm (noR h hz x), Option.bind_some, if_pos rfl, Option.bind_some, if_pos rfl]
theorem Z_hare (h : CMz z np nr W H ru pg rd nl F lw D w S jl acts pw σ) (e : EX np nr nl F D σ) (hD : D ≤ 60 * t) (hz : ¬ 0 < np) (x : Int32) : STEP t σ (fX9_hare 0 x σ) (fX10_hare 310 x) := by
  refine STEP.non (v := -1) h (Or.inr (by omega)) e hD ?_ ?_
  · unfold fX9_hare; rw [h.rf.win, Option.bind_some, h.rf.now, Option.bind_some, c_may_hare_out h.g h.hc h.rf.wr (noC h hz x), Option.bind_some, if_pos rfl]
  · unfold fX10_hare; rw [m_isCell_out h.g h.mm.thr.1.hm (noC h hz x), Option.bind_some, if_pos rfl]
theorem Z_loss (h : CMz z np nr W H ru pg rd nl F lw D w S jl acts pw σ) (e : EX np nr nl F D σ) (hD : D ≤ 60 * t) (hz : ¬ 0 < np) (x y : Int32) : STEP t σ (fX9_loss 0 x y σ) (fX10_loss 310 x y) := by
  refine STEP.non (v := -1) h (Or.inr (by omega)) e hD ?_ ?_
  · unfold fX9_loss; rw [h.rf.hall, Option.bind_some, c_hasReader_out h.g h.hc (noR h hz x), Option.bind_some, if_pos rfl]
  · unfold fX10_loss; rw [m_isReader_out h.g h.mm.thr.1.hm (noR h hz x), Option.bind_some, if_pos rfl]
theorem Z_last (h : CMz z np nr W H ru pg rd nl F lw D w S jl acts pw σ) (e : EX np nr nl F D σ) (hD : D ≤ 60 * t) (hz : ¬ 0 < np) (x : Int32) : STEP t σ (fX9_last 0 x σ) (fX10_last 310 x) := by
  refine STEP.non (v := -1) h (Or.inr (by omega)) e hD ?_ ?_
  · unfold fX9_last; rw [h.rf.hall, Option.bind_some, c_hasPage_out h.g h.hc (noP hz x), Option.bind_some, if_pos rfl]
  · unfold fX10_last; rw [m_isPage_out h.g h.mm.thr.1.hm (noP hz x), Option.bind_some, if_pos rfl]
theorem Z_order (h : CMz z np nr W H ru pg rd nl F lw D w S jl acts pw σ) (e : EX np nr nl F D σ) (hD : D ≤ 60 * t) (hz : ¬ 0 < np) (x y u : Int32) : STEP t σ (fX9_order 0 x y u σ) (fX10_order 310 x y u) := by
  refine STEP.non (v := -1000000) h (Or.inr (by omega)) e hD ?_ ?_
  · unfold fX9_order; rw [h.rf.hall, Option.bind_some, c_hasReader_out h.g h.hc (noR h hz x), Option.bind_some, if_pos rfl]; rfl
  · unfold fX10_order; rw [m_isReader_out h.g h.mm.thr.1.hm (noR h hz x), Option.bind_some, if_pos rfl]; rfl
theorem Z_placeFor (h : CMz z np nr W H ru pg rd nl F lw D w S jl acts pw σ) (e : EX np nr nl F D σ) (hD : D ≤ 60 * t) (hz : ¬ 0 < np) (x y : Int32) : STEV t σ (fX9_placeFor 0 x y σ) (fX10_placeFor 310 x y σ) := by
  refine STEV.non (v := -1) h (Or.inr (by omega)) e hD ?_ ?_
  · unfold fX9_placeFor; rw [h.rf.hall, Option.bind_some, c_hasPage_out h.g h.hc (noP hz x), Option.bind_some, if_pos rfl]
  · unfold fX10_placeFor; rw [m_isPage_out h.g h.mm.thr.1.hm (noP hz x), Option.bind_some, if_pos rfl]
theorem Z_likely (h : CMz z np nr W H ru pg rd nl F lw D w S jl acts pw σ) (e : EX np nr nl F D σ) (hD : D ≤ 60 * t) (hz : ¬ 0 < np) (x y : Int32) : STEV t σ (fX9_likely 0 x y σ) (fX10_likely 310 x y σ) := by
  refine STEV.non (v := -1) h (Or.inr (by omega)) e hD ?_ ?_
  · unfold fX9_likely; rw [h.rf.hall, Option.bind_some, c_hasPage_out h.g h.hc (noP hz x), Option.bind_some, if_pos rfl]
  · unfold fX10_likely; rw [m_isPage_out h.g h.mm.thr.1.hm (noP hz x), Option.bind_some, if_pos rfl]
theorem Z_breathed (h : CMz z np nr W H ru pg rd nl F lw D w S jl acts pw σ) (e : EX np nr nl F D σ) (hD : D ≤ 60 * t) (hz : ¬ 0 < np) (x y u v : Int32) : STEP t σ (fX9_breathed 0 x y u v σ) (fX10_breathed 310 x y u v) := by
  refine STEP.non (v := -1) h (Or.inr (by omega)) e hD ?_ ?_
  · unfold fX9_breathed; rw [c_isThere_out h.rf h.g h.hc (noP hz x), Option.bind_some, if_pos rfl]
  · unfold fX10_breathed; rw [m_isPage_out h.g h.mm.thr.1.hm (noP hz x), Option.bind_some, if_pos rfl]
theorem Z_learnt (h : CMz z np nr W H ru pg rd nl F lw D w S jl acts pw σ) (e : EX np nr nl F D σ) (hD : D ≤ 60 * t) (hz : ¬ 0 < np) (x : Int32) : STEV t σ (fX9_learnt 0 x σ) (fX10_learnt 310 x σ) := by
  refine STEV.non (v := -1) h (Or.inr (by omega)) e hD ?_ ?_
  · unfold fX9_learnt; rw [h.rf.hall, Option.bind_some, c_hasReader_out h.g h.hc (noR h hz x), Option.bind_some, if_pos rfl]
  · unfold fX10_learnt; rw [m_isReader_out h.g h.mm.thr.1.hm (noR h hz x), Option.bind_some, if_pos rfl]
theorem Z_quiet (h : CMz z np nr W H ru pg rd nl F lw D w S jl acts pw σ) (e : EX np nr nl F D σ) (hD : D ≤ 60 * t) (hz : ¬ 0 < np) (x y : Int32) : STEP t σ (fX9_quiet 0 x y σ) (fX10_quiet 310 x y) := by
  refine STEP.non (v := -1) h (Or.inr (by omega)) e hD ?_ ?_
  · unfold fX9_quiet; rw [h.rf.hall, Option.bind_some, c_hasReader_out h.g h.hc (noR h hz x), Option.bind_some, if_pos rfl]
  · unfold fX10_quiet; rw [m_isReader_out h.g h.mm.thr.1.hm (noR h hz x), Option.bind_some, if_pos rfl]
theorem Z_back (h : CMz z np nr W H ru pg rd nl F lw D w S jl acts pw σ) (e : EX np nr nl F D σ) (hD : D ≤ 60 * t) (hz : ¬ 0 < np) : STEP t σ (fX9_back 0 σ) (fX10_back 310) := by
  rcases e.2.2.2.2.2 with ⟨a, b⟩ | ⟨-, -, c, -⟩
  · refine STEP.non (v := -1) h (Or.inr (by omega)) e hD ?_ ?_
    · unfold fX9_back; rw [a, if_pos rfl]
    · unfold fX10_back; rw [show gI (sI σ 310 0 0) 310 51 = 0 from by rw [gI_sI, if_neg (by omega)]; exact b, if_pos rfl]
  · exact absurd c hz
theorem Z_as (h : CMz false np nr W H ru pg rd nl F lw D w S jl acts pw σ) : acts = 0 ∧ S = 0 := by
  rcases h.1.2.2.2.2.1.2.2 with y | y
  · cases y
  · omega
theorem Z_undo (h : CMz false np nr W H ru pg rd nl F lw D w S jl acts pw σ) (e : EX np nr nl F D σ) (hD : D ≤ 60 * t) (hz : ¬ 0 < np) : STEP t σ (fX9_undo 0 σ) (fX10_undo 310) := by
  obtain ⟨a0, S0⟩ := Z_as h
  refine STEP.non (v := -1) h (Or.inr (by omega)) e hD ?_ ?_
  · unfold fX9_undo fX4_giveBack
    rw [h.rf.past, Option.bind_some, h.rf.now, Option.bind_some, h.pc.2.1, a0, if_pos (by decide), bnd2_some, if_pos rfl]
  · unfold fX10_undo
    rw [show gI (sI σ 310 0 0) 310 42 = nI acts from h.mm.thr.2.2.2.2.1, a0, if_pos (show nI 0 = 0 from rfl)]
theorem Z_log (h : CMz false np nr W H ru pg rd nl F lw D w S jl acts pw σ) (e : EX np nr nl F D σ) (hD : D ≤ 60 * t) (hz : ¬ 0 < np) (x y : Int32) : STEV t σ (fX9_log 0 x y σ) (fX10_log 310 x y σ) := by
  obtain ⟨a0, S0⟩ := Z_as h
  refine STEV.non (v := -1000000) h (Or.inr (by omega)) e hD ?_ ?_
  · unfold fX9_log
    rw [h.rf.jou, Option.bind_some, c_entry_out h.jc (Or.inl (by rw [S0]; exact fun ⟨i, hi, _⟩ => by omega)), Option.bind_some]
  · unfold fX10_log
    rw [h.mm.r33, Option.bind_some, ln323, if_pos (by decide), show Int32.toNatClampNeg 110 = 110 by decide, h.mm.thr.2.2.1.2.1, S0, show min 0 60 = 0 by decide, isIn_m1, Option.bind_some, if_pos rfl]
    rfl
theorem whB {α β : Type} {f : α → Option (α ⊕ β)} {a : α} {b : β} (h : f a = some (.inr b)) : wh f BIG a = some b := by
  show wh f (999999 + 1) a = some b
  exact whR h
theorem Z_first (h : CMz z np nr W H ru pg rd nl F lw D w S jl acts pw σ) (e : EX np nr nl F D σ) (hD : D ≤ 60 * t) (hz : ¬ 0 < np) : STEV t σ (fX9_first 0 σ) (fX10_first 310 σ) := by
  have n0 : nr = 0 := nr0 h hz
  have p0 : np = 0 := by omega
  have pk : fX8_pagesKnown 11 89 σ = some 0 := by
    have l : fX8_pagesKnown_l4 11 89 0 0 σ = some (Sum.inr 0) := by
      unfold fX8_pagesKnown_l4
      rw [h.rf.wr.1, Option.bind_some, h.hc.2.2.2.2.2.2.2.1, n0, if_pos (by decide)]
    unfold fX8_pagesKnown fX8_pagesKnown_w4
    have e2 : wh (fun a : Int32 × Int32 => fX8_pagesKnown_l4 11 89 a.1 a.2 σ) BIG (0, 0) = some 0 := whB l
    rw [e2]; rfl
  refine STEV.non (v := -1) h (Or.inr (by omega)) e hD ?_ ?_
  · have l : ∀ k, fX9_first_l16 0 k (-1) 0 σ = some (Sum.inr (-1)) := fun k => by
      unfold fX9_first_l16
      rw [h.rf.hall, Option.bind_some, h.hc.2.2.2.2.2.2.1, p0, if_pos (by decide)]
    unfold fX9_first fX9_first_w16
    rw [h.rf.win, Option.bind_some, h.rf.now, Option.bind_some, pk, Option.bind_some]
    have e2 : wh (fun a : Int32 × Int32 => fX9_first_l16 0 0 a.1 a.2 σ) BIG (-1, 0) = some (-1) := whB (l 0)
    rw [e2]; rfl
  · have l : fX10_first_l9 310 (-1) 0 (sI σ 310 0 0) = some (Sum.inr (-1, sI σ 310 0 0)) := by
      unfold fX10_first_l9
      rw [e27z h hz, if_pos (by decide)]
    unfold fX10_first fX10_first_w9
    have e2 : wh (fun a : Int32 × Int32 => fX10_first_l9 310 a.1 a.2 (sI σ 310 0 0)) BIG (-1, 0) = some (-1, sI σ 310 0 0) := whB l
    rw [e2]; rfl
end NoHall2
