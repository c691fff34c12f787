/-! every call keeps what holds -/
section AllCalls
variable {σ : Mm} {t : Nat}
theorem WK.al {c : Option (Int32 × Mm)} {m : Mm → Option (Int32 × Mm)} (h : ALL t σ) (k : ∀ np nr W H ru pg rd nl F lw D w S jl acts pw, CM np nr W H ru pg rd nl F lw D w S jl acts pw σ → EX np nr nl F D σ → D ≤ 60 * t → WK np nr W H ru pg rd nl F lw D σ c m) (kz : ∀ np nr W H ru pg rd nl F lw D w S jl acts pw, CMz false np nr W H ru pg rd nl F lw D w S jl acts pw σ → EX np nr nl F D σ → D ≤ 60 * t → ¬ 0 < np → STEP t σ c m) : STEP t σ c m := by
  obtain ⟨z, np, nr, W, H, ru, pg, rd, nl, F, lw, D, w, S, jl, acts, pw, h1, hz, h2, h3⟩ := h
  cases z with
  | true => exact WK.all (h1.cm rfl) h2 h3 (k _ _ _ _ _ _ _ _ _ _ _ _ _ _ _ _ (h1.cm rfl) h2 h3)
  | false => exact kz _ _ _ _ _ _ _ _ _ _ _ _ _ _ _ _ h1 h2 h3 (by rcases hz with y | y; cases y; omega)
theorem WQ.al {c : Option (Int32 × Mm)} {m : Mm → Option (Int32 × Mm)} (h : ALL t σ) (k : ∀ np nr W H ru pg rd nl F lw D w S jl acts pw, CM np nr W H ru pg rd nl F lw D w S jl acts pw σ → EX np nr nl F D σ → D ≤ 60 * t → WQ np nr W H ru pg rd nl F lw σ c m) (kz : ∀ np nr W H ru pg rd nl F lw D w S jl acts pw, CMz false np nr W H ru pg rd nl F lw D w S jl acts pw σ → EX np nr nl F D σ → D ≤ 60 * t → ¬ 0 < np → STEP t σ c m) : STEP t σ c m := by
  obtain ⟨z, np, nr, W, H, ru, pg, rd, nl, F, lw, D, w, S, jl, acts, pw, h1, hz, h2, h3⟩ := h
  cases z with
  | true => exact WQ.all (h1.cm rfl) h2 h3 (k _ _ _ _ _ _ _ _ _ _ _ _ _ _ _ _ (h1.cm rfl) h2 h3)
  | false => exact kz _ _ _ _ _ _ _ _ _ _ _ _ _ _ _ _ h1 h2 h3 (by rcases hz with y | y; cases y; omega)
theorem WV.al {c : Option Int32} {m : Option (Int32 × Mm)} (h : ALL t σ) (k : ∀ np nr W H ru pg rd nl F lw D w S jl acts pw, CM np nr W H ru pg rd nl F lw D w S jl acts pw σ → EX np nr nl F D σ → D ≤ 60 * t → WV np nr W H ru pg rd nl F lw σ c m) (kz : ∀ np nr W H ru pg rd nl F lw D w S jl acts pw, CMz false np nr W H ru pg rd nl F lw D w S jl acts pw σ → EX np nr nl F D σ → D ≤ 60 * t → ¬ 0 < np → STEV t σ c m) : STEV t σ c m := by
  obtain ⟨z, np, nr, W, H, ru, pg, rd, nl, F, lw, D, w, S, jl, acts, pw, h1, hz, h2, h3⟩ := h
  cases z with
  | true => exact WV.all (h1.cm rfl) h2 h3 (k _ _ _ _ _ _ _ _ _ _ _ _ _ _ _ _ (h1.cm rfl) h2 h3)
  | false => exact kz _ _ _ _ _ _ _ _ _ _ _ _ _ _ _ _ h1 h2 h3 (by rcases hz with y | y; cases y; omega)
theorem ST.al {c : Option (Int32 × Mm)} {m : Mm → Option (Int32 × Mm)} (h : ALL t σ) (k : ∀ z np nr W H ru pg rd nl F lw D w S jl acts pw, CMz z np nr W H ru pg rd nl F lw D w S jl acts pw σ → (z = true ∨ np = 0) → EX np nr nl F D σ → D ≤ 60 * t → STEP t σ c m) : STEP t σ c m := by
  obtain ⟨z, np, nr, W, H, ru, pg, rd, nl, F, lw, D, w, S, jl, acts, pw, h1, hz, h2, h3⟩ := h
  exact k _ _ _ _ _ _ _ _ _ _ _ _ _ _ _ _ _ h1 hz h2 h3
theorem SV.al {c : Option Int32} {m : Option (Int32 × Mm)} (h : ALL t σ) (k : ∀ z np nr W H ru pg rd nl F lw D w S jl acts pw, CMz z np nr W H ru pg rd nl F lw D w S jl acts pw σ → (z = true ∨ np = 0) → EX np nr nl F D σ → D ≤ 60 * t → STEV t σ c m) : STEV t σ c m := by
  obtain ⟨z, np, nr, W, H, ru, pg, rd, nl, F, lw, D, w, S, jl, acts, pw, h1, hz, h2, h3⟩ := h
  exact k _ _ _ _ _ _ _ _ _ _ _ _ _ _ _ _ _ h1 hz h2 h3
theorem A_feed (h : ALL t σ) (ht : t ≤ 1000) (a b c d e : Int32) : STEP t σ (fX9_feed 0 a b c d e σ) (fX10_feed 310 a b c d e) := ST.al h fun _ _ _ _ _ _ _ _ _ _ _ _ _ _ _ _ _ h1 hz h2 h3 => X_feed h1 hz h2 h3 a b c d e
theorem A_end (h : ALL t σ) (ht : t ≤ 1000) (a : Int32) : STEP t σ (fX9_end 0 a σ) (fX10_end 310 a) := ST.al h fun _ _ _ _ _ _ _ _ _ _ _ _ _ _ _ _ _ h1 hz h2 h3 => X_end h1 hz h2 h3 a
theorem A_fault (h : ALL t σ) (ht : t ≤ 1000) (a : Int32) : STEP t σ (fX9_fault 0 a σ) (fX10_fault 310 a) := ST.al h fun _ _ _ _ _ _ _ _ _ _ _ _ _ _ _ _ _ h1 hz h2 h3 => X_fault h1 hz h2 h3 a
theorem A_text (h : ALL t σ) (ht : t ≤ 1000) (a : Int32) : STEP t σ (fX9_text 0 a σ) (fX10_text 310 a) := ST.al h fun _ _ _ _ _ _ _ _ _ _ _ _ _ _ _ _ _ h1 hz h2 h3 => X_text h1 hz h2 h3 a
theorem A_hall (h : ALL t σ) (ht : t ≤ 1000) (a : Int32) : STEV t σ (fX9_hall 0 a σ) (fX10_hall 310 a σ) := by
  obtain ⟨z, np, nr, W, H, ru, pg, rd, nl, F, lw, D, w, S, jl, acts, pw, h1, hz, h2, h3⟩ := h
  by_cases q : 0 < np
  · have hc := h1.cm (by rcases hz with y | y; exact y; omega)
    exact WV.all hc h2 h3 (Q_hall hc q a)
  · exact Z_hall h1 h2 h3 q a
theorem A_page (h : ALL t σ) (ht : t ≤ 1000) (a b : Int32) : STEV t σ (fX9_page 0 a b σ) (fX10_page 310 a b σ) := WV.al h (fun _ _ _ _ _ _ _ _ _ _ _ _ _ _ _ _ h1 h2 h3 => Q_page h1 a b) (fun _ _ _ _ _ _ _ _ _ _ _ _ _ _ _ _ h1 h2 h3 q => Z_page h1 h2 h3 q a b)
theorem A_memory (h : ALL t σ) (ht : t ≤ 1000) (a b : Int32) : STEV t σ (fX9_memory 0 a b σ) (fX10_memory 310 a b σ) := WV.al h (fun _ _ _ _ _ _ _ _ _ _ _ _ _ _ _ _ h1 h2 h3 => Q_memory h1 a b) (fun _ _ _ _ _ _ _ _ _ _ _ _ _ _ _ _ h1 h2 h3 q => Z_memory h1 h2 h3 q a b)
theorem A_law (h : ALL t σ) (ht : t ≤ 1000) (a : Int32) : STEP t σ (fX9_law 0 a σ) (fX10_law 310 a) := ST.al h fun _ _ _ _ _ _ _ _ _ _ _ _ _ _ _ _ _ h1 hz h2 h3 => X_lawCall h1 hz h2 h3 a
theorem A_slips (h : ALL t σ) (ht : t ≤ 1000) (a : Int32) : STEP t σ (fX9_slips 0 a σ) (fX10_slips 310 a) := ST.al h fun _ _ _ _ _ _ _ _ _ _ _ _ _ _ _ _ _ h1 hz h2 h3 => X_slips h1 hz h2 h3 a
theorem A_melt (h : ALL t σ) (ht : t ≤ 1000) (a b c : Int32) : STEP t σ (fX9_melt 0 a b c σ) (fX10_melt 310 a b c) := WQ.al h (fun _ _ _ _ _ _ _ _ _ _ _ _ _ _ _ _ h1 h2 h3 => Q_melt h1 (by omega) a b c) (fun _ _ _ _ _ _ _ _ _ _ _ _ _ _ _ _ h1 h2 h3 q => Z_melt h1 h2 h3 q a b c)
theorem A_read (h : ALL t σ) (ht : t ≤ 1000) (a b : Int32) : STEP t σ (fX9_read 0 a b σ) (fX10_read 310 a b) := WK.al h (fun _ _ _ _ _ _ _ _ _ _ _ _ _ _ _ _ h1 h2 h3 => by
  obtain ⟨v, s1, s2, k1, k2, D', w', S', jl', acts', pw', k3, k4, k5, -⟩ := W_read h1 (by omega) a b
  exact ⟨v, s1, s2, k1, k2, D', w', S', jl', acts', pw', k3, k4, k5⟩) (fun _ _ _ _ _ _ _ _ _ _ _ _ _ _ _ _ h1 h2 h3 q => Z_read h1 h2 h3 q a b)
theorem A_recut (h : ALL t σ) (ht : t ≤ 1000) (a b : Int32) : STEP t σ (fX9_recut 0 a b σ) (fX10_recut 310 a b) := WK.al h (fun _ _ _ _ _ _ _ _ _ _ _ _ _ _ _ _ h1 h2 h3 => W_recut h1 a b) (fun _ _ _ _ _ _ _ _ _ _ _ _ _ _ _ _ h1 h2 h3 q => Z_recut h1 h2 h3 q a b)
theorem A_go (h : ALL t σ) (ht : t ≤ 1000) (a b : Int32) : STEP t σ (fX9_go 0 a b σ) (fX10_go 310 a b) := by
  obtain ⟨z, np, nr, W, H, ru, pg, rd, nl, F, lw, D, w, S, jl, acts, pw, h1, hz, h2, h3⟩ := h
  by_cases q : 0 < np
  · have hc := h1.cm (by rcases hz with y | y; exact y; omega)
    exact WK.all hc h2 h3 (W_go hc q a b)
  · exact Z_go h1 h2 h3 q a b
theorem A_tell (h : ALL t σ) (ht : t ≤ 1000) (a b : Int32) : STEP t σ (fX9_tell 0 a b σ) (fX10_tell 310 a b) := WK.al h (fun _ _ _ _ _ _ _ _ _ _ _ _ _ _ _ _ h1 h2 h3 => W_tell h1 a b) (fun _ _ _ _ _ _ _ _ _ _ _ _ _ _ _ _ h1 h2 h3 q => Z_tell h1 h2 h3 q a b)
theorem A_night (h : ALL t σ) (ht : t ≤ 1000) : STEP t σ (fX9_night 0 σ) (fX10_night 310) := by
  obtain ⟨z, np, nr, W, H, ru, pg, rd, nl, F, lw, D, w, S, jl, acts, pw, h1, hz, h2, h3⟩ := h
  by_cases q : 0 < np
  · have hc := h1.cm (by rcases hz with y | y; exact y; omega)
    exact WK.all hc h2 h3 (W_night hc q)
  · exact Z_night h1 h2 h3 q
theorem A_hare (h : ALL t σ) (ht : t ≤ 1000) (a : Int32) : STEP t σ (fX9_hare 0 a σ) (fX10_hare 310 a) := WK.al h (fun _ _ _ _ _ _ _ _ _ _ _ _ _ _ _ _ h1 h2 h3 => W_hare h1 a) (fun _ _ _ _ _ _ _ _ _ _ _ _ _ _ _ _ h1 h2 h3 q => Z_hare h1 h2 h3 q a)
theorem A_cent (h : ALL t σ) (ht : t ≤ 1000) (a : Int32) (s : Int64) : STEP t σ (fX9_centuries 0 a s σ) (fX10_centuries 310 a s) := by
  obtain ⟨z, np, nr, W, H, ru, pg, rd, nl, F, lw, D, w, S, jl, acts, pw, h1, hz, h2, h3⟩ := h
  by_cases q : 0 < np
  · have hc := h1.cm (by rcases hz with y | y; exact y; omega)
    exact WK.all hc h2 h3 (by
      obtain ⟨sl, s1, s2, s3⟩ := h2.2.2.2.1
      exact W_cent hc (by omega) q s2 s3 s1 a s)
  · exact Z_cent h1 h2 h3 q a s
theorem A_undo (h : ALL t σ) (ht : t ≤ 1000) : STEP t σ (fX9_undo 0 σ) (fX10_undo 310) := WK.al h (fun _ _ _ _ _ _ _ _ _ _ _ _ _ _ _ _ h1 h2 h3 => W_undo h1) (fun _ _ _ _ _ _ _ _ _ _ _ _ _ _ _ _ h1 h2 h3 q => Z_undo h1 h2 h3 q)
theorem A_log (h : ALL t σ) (ht : t ≤ 1000) (a b : Int32) : STEV t σ (fX9_log 0 a b σ) (fX10_log 310 a b σ) := WV.al h (fun _ _ _ _ _ _ _ _ _ _ _ _ _ _ _ _ h1 h2 h3 => Q_log h1 a b) (fun _ _ _ _ _ _ _ _ _ _ _ _ _ _ _ _ h1 h2 h3 q => Z_log h1 h2 h3 q a b)
theorem A_step (h : ALL t σ) (ht : t ≤ 1000) (a b c : Int32) : STEV t σ (fX9_step 0 a b c σ) (fX10_step 310 a b c σ) := SV.al h fun _ _ _ _ _ _ _ _ _ _ _ _ _ _ _ _ _ h1 hz h2 h3 => X_stepCall h1 hz h2 h3 a b c
theorem A_run (h : ALL t σ) (ht : t ≤ 1000) (a b : Int32) : STEP t σ (fX9_run 0 a b σ) (fX10_run 310 a b) := by
  obtain ⟨z, np, nr, W, H, ru, pg, rd, nl, F, lw, D, w, S, jl, acts, pw, h1, hz, h2, h3⟩ := h
  by_cases q : 0 < np
  · have hc := h1.cm (by rcases hz with y | y; exact y; omega)
    exact WQ.all hc h2 h3 (by
      obtain ⟨npl, e7⟩ := h2.2.2.2.2.1
      exact X_run hc q (by omega) e7 a b)
  · obtain ⟨npl, e7⟩ := h2.2.2.2.2.1
    exact Z_run h1 h2 h3 q e7 a b
theorem A_perform (h : ALL t σ) (ht : t ≤ 1000) (a : Int32) : STEP t σ (fX9_perform 0 a σ) (fX10_perform 310 a) := by
  obtain ⟨z, np, nr, W, H, ru, pg, rd, nl, F, lw, D, w, S, jl, acts, pw, h1, hz, h2, h3⟩ := h
  by_cases q : 0 < np
  · have hc := h1.cm (by rcases hz with y | y; exact y; omega)
    exact WK.all hc h2 h3 (by
      obtain ⟨npl, e7⟩ := h2.2.2.2.2.1
      exact X_perform hc q (by omega) e7 a)
  · obtain ⟨npl, e7⟩ := h2.2.2.2.2.1
    exact Z_perform h1 h2 h3 q e7 a
theorem A_loss (h : ALL t σ) (ht : t ≤ 1000) (a b : Int32) : STEP t σ (fX9_loss 0 a b σ) (fX10_loss 310 a b) := WQ.al h (fun _ _ _ _ _ _ _ _ _ _ _ _ _ _ _ _ h1 h2 h3 => Q_loss h1 (by omega) a b) (fun _ _ _ _ _ _ _ _ _ _ _ _ _ _ _ _ h1 h2 h3 q => Z_loss h1 h2 h3 q a b)
theorem A_left (h : ALL t σ) (ht : t ≤ 1000) (a : Int32) : STEP t σ (fX9_left 0 a σ) (fX10_left 310 a) := by
  obtain ⟨z, np, nr, W, H, ru, pg, rd, nl, F, lw, D, w, S, jl, acts, pw, h1, hz, h2, h3⟩ := h
  by_cases q : 0 < np
  · have hc := h1.cm (by rcases hz with y | y; exact y; omega)
    exact WQ.all hc h2 h3 (Q_left hc (by omega) q a)
  · exact Z_left h1 h2 h3 q a
theorem A_last (h : ALL t σ) (ht : t ≤ 1000) (a : Int32) : STEP t σ (fX9_last 0 a σ) (fX10_last 310 a) := WQ.al h (fun _ _ _ _ _ _ _ _ _ _ _ _ _ _ _ _ h1 h2 h3 => Q_last h1 (by omega) a) (fun _ _ _ _ _ _ _ _ _ _ _ _ _ _ _ _ h1 h2 h3 q => Z_last h1 h2 h3 q a)
theorem A_order (h : ALL t σ) (ht : t ≤ 1000) (a b c : Int32) : STEP t σ (fX9_order 0 a b c σ) (fX10_order 310 a b c) := WQ.al h (fun _ _ _ _ _ _ _ _ _ _ _ _ _ _ _ _ h1 h2 h3 => Q_order h1 (by omega) a b c) (fun _ _ _ _ _ _ _ _ _ _ _ _ _ _ _ _ h1 h2 h3 q => Z_order h1 h2 h3 q a b c)
theorem A_share (h : ALL t σ) (ht : t ≤ 1000) (a b : Int32) : STEP t σ (fX9_share 0 a b σ) (fX10_share 310 a b) := by
  obtain ⟨z, np, nr, W, H, ru, pg, rd, nl, F, lw, D, w, S, jl, acts, pw, h1, hz, h2, h3⟩ := h
  by_cases q : 0 < np
  · have hc := h1.cm (by rcases hz with y | y; exact y; omega)
    exact WQ.all hc h2 h3 (Q_share hc (by omega) q a b)
  · exact Z_share h1 h2 h3 q a b
theorem A_who (h : ALL t σ) (ht : t ≤ 1000) (a : Int32) : STEV t σ (fX9_who 0 a σ) (fX10_who 310 a σ) := by
  obtain ⟨z, np, nr, W, H, ru, pg, rd, nl, F, lw, D, w, S, jl, acts, pw, h1, hz, h2, h3⟩ := h
  by_cases q : 0 < np
  · have hc := h1.cm (by rcases hz with y | y; exact y; omega)
    exact WV.all hc h2 h3 (Q_who hc q a)
  · exact Z_who h1 h2 h3 q a
theorem A_first (h : ALL t σ) (ht : t ≤ 1000) : STEV t σ (fX9_first 0 σ) (fX10_first 310 σ) := WV.al h (fun _ _ _ _ _ _ _ _ _ _ _ _ _ _ _ _ h1 h2 h3 => Q_first h1) (fun _ _ _ _ _ _ _ _ _ _ _ _ _ _ _ _ h1 h2 h3 q => Z_first h1 h2 h3 q)
theorem A_placeFor (h : ALL t σ) (ht : t ≤ 1000) (a b : Int32) : STEV t σ (fX9_placeFor 0 a b σ) (fX10_placeFor 310 a b σ) := WV.al h (fun _ _ _ _ _ _ _ _ _ _ _ _ _ _ _ _ h1 h2 h3 => Q_placeFor h1 a b) (fun _ _ _ _ _ _ _ _ _ _ _ _ _ _ _ _ h1 h2 h3 q => Z_placeFor h1 h2 h3 q a b)
theorem A_needy (h : ALL t σ) (ht : t ≤ 1000) : STEV t σ (fX9_needy 0 σ) (fX10_needy 310 σ) := by
  obtain ⟨z, np, nr, W, H, ru, pg, rd, nl, F, lw, D, w, S, jl, acts, pw, h1, hz, h2, h3⟩ := h
  by_cases q : 0 < np
  · have hc := h1.cm (by rcases hz with y | y; exact y; omega)
    exact WV.all hc h2 h3 (Q_needy hc q)
  · exact Z_needy h1 h2 h3 q
theorem A_known (h : ALL t σ) (ht : t ≤ 1000) : STEV t σ (fX9_known 0 σ) (fX10_known 310 σ) := by
  obtain ⟨z, np, nr, W, H, ru, pg, rd, nl, F, lw, D, w, S, jl, acts, pw, h1, hz, h2, h3⟩ := h
  by_cases q : 0 < np
  · have hc := h1.cm (by rcases hz with y | y; exact y; omega)
    exact WV.all hc h2 h3 (Q_known hc q)
  · exact Z_known h1 h2 h3 q
theorem A_sure (h : ALL t σ) (ht : t ≤ 1000) : STEV t σ (fX9_sure 0 σ) (fX10_sure 310 σ) := by
  obtain ⟨z, np, nr, W, H, ru, pg, rd, nl, F, lw, D, w, S, jl, acts, pw, h1, hz, h2, h3⟩ := h
  by_cases q : 0 < np
  · have hc := h1.cm (by rcases hz with y | y; exact y; omega)
    exact WV.all hc h2 h3 (Q_sure hc q)
  · exact Z_sure h1 h2 h3 q
theorem A_split (h : ALL t σ) (ht : t ≤ 1000) : STEV t σ (fX9_split 0 σ) (fX10_split 310 σ) := by
  obtain ⟨z, np, nr, W, H, ru, pg, rd, nl, F, lw, D, w, S, jl, acts, pw, h1, hz, h2, h3⟩ := h
  by_cases q : 0 < np
  · have hc := h1.cm (by rcases hz with y | y; exact y; omega)
    exact WV.all hc h2 h3 (Q_split hc q)
  · exact Z_split h1 h2 h3 q
theorem A_likely (h : ALL t σ) (ht : t ≤ 1000) (a b : Int32) : STEV t σ (fX9_likely 0 a b σ) (fX10_likely 310 a b σ) := WV.al h (fun _ _ _ _ _ _ _ _ _ _ _ _ _ _ _ _ h1 h2 h3 => Q_likely h1 a b) (fun _ _ _ _ _ _ _ _ _ _ _ _ _ _ _ _ h1 h2 h3 q => Z_likely h1 h2 h3 q a b)
theorem A_breathed (h : ALL t σ) (ht : t ≤ 1000) (a b c d : Int32) : STEP t σ (fX9_breathed 0 a b c d σ) (fX10_breathed 310 a b c d) := WQ.al h (fun _ _ _ _ _ _ _ _ _ _ _ _ _ _ _ _ h1 h2 h3 => Q_breathed h1 (by omega) a b c d) (fun _ _ _ _ _ _ _ _ _ _ _ _ _ _ _ _ h1 h2 h3 q => Z_breathed h1 h2 h3 q a b c d)
theorem A_exam (h : ALL t σ) (ht : t ≤ 1000) (a b c : Int32) : STEP t σ (fX9_exam 0 a b c σ) (fX10_exam 310 a b c) := WQ.al h (fun _ _ _ _ _ _ _ _ _ _ _ _ _ _ _ _ h1 h2 h3 => Q_exam h1 a b c) (fun _ _ _ _ _ _ _ _ _ _ _ _ _ _ _ _ h1 h2 h3 q => Z_exam h1 h2 h3 q a b c)
theorem A_learnt (h : ALL t σ) (ht : t ≤ 1000) (a : Int32) : STEV t σ (fX9_learnt 0 a σ) (fX10_learnt 310 a σ) := WV.al h (fun _ _ _ _ _ _ _ _ _ _ _ _ _ _ _ _ h1 h2 h3 => Q_learnt h1 a) (fun _ _ _ _ _ _ _ _ _ _ _ _ _ _ _ _ h1 h2 h3 q => Z_learnt h1 h2 h3 q a)
theorem A_quiet (h : ALL t σ) (ht : t ≤ 1000) (a b : Int32) : STEP t σ (fX9_quiet 0 a b σ) (fX10_quiet 310 a b) := WQ.al h (fun _ _ _ _ _ _ _ _ _ _ _ _ _ _ _ _ h1 h2 h3 => Q_quiet h1 (by omega) a b) (fun _ _ _ _ _ _ _ _ _ _ _ _ _ _ _ _ h1 h2 h3 q => Z_quiet h1 h2 h3 q a b)
theorem A_far (h : ALL t σ) (ht : t ≤ 1000) : STEV t σ (fX9_far 0 σ) (fX10_far 310 σ) := by
  obtain ⟨z, np, nr, W, H, ru, pg, rd, nl, F, lw, D, w, S, jl, acts, pw, h1, hz, h2, h3⟩ := h
  by_cases q : 0 < np
  · have hc := h1.cm (by rcases hz with y | y; exact y; omega)
    exact WV.all hc h2 h3 (Q_far hc q)
  · exact Z_far h1 h2 h3 q
theorem A_image (h : ALL t σ) (ht : t ≤ 1000) : STEP t σ (fX9_image 0 σ) (fX10_image 310) := by
  obtain ⟨z, np, nr, W, H, ru, pg, rd, nl, F, lw, D, w, S, jl, acts, pw, h1, hz, h2, h3⟩ := h
  cases z with
  | true => exact if q : 0 < np then X_image (h1.cm rfl) h2 h3 q else Z_image h1 h2 h3 q
  | false => exact Z_image h1 h2 h3 (by rcases hz with y | y; cases y; omega)
theorem A_back (h : ALL t σ) (ht : t ≤ 1000) : STEP t σ (fX9_back 0 σ) (fX10_back 310) := by
  obtain ⟨z, np, nr, W, H, ru, pg, rd, nl, F, lw, D, w, S, jl, acts, pw, h1, hz, h2, h3⟩ := h
  cases z with
  | true => exact X_back (h1.cm rfl) h2 h3
  | false => exact Z_back h1 h2 h3 (by rcases hz with y | y; cases y; omega)
theorem A_count (h : ALL t σ) (ht : t ≤ 1000) (a : Int32) : STEV t σ (fX9_count 0 a σ) (fX10_count 310 a σ) := SV.al h fun _ _ _ _ _ _ _ _ _ _ _ _ _ _ _ _ _ h1 hz h2 h3 => X_count h1 hz h2 h3 a
end AllCalls
