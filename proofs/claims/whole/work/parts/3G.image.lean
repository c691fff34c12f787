/-! calls: image, back, count -/
section Img
variable {σ σ' : Mm} {D np nr W H S acts nl t : Nat} {ru pg rd w : Nat → Int32} {F : Nat → LF} {lw : Option LF} {jl pw : Nat → Nat → Int32} {T : Nat → Nat → Bool}
def sIm (c k : Nat) : Bool := (decide (303 ≤ c) && decide (c ≤ 309)) || (c == 0 && k == 13) || (c == 310 && (k == 0 || k == 51)) || c == 332
theorem sS303 {c k : Nat} (h : sIm c k = false) : sS 303 c k = false := by
  unfold sIm at h; unfold sS; simp at h ⊢; omega
theorem sJ308 {c k : Nat} (h : sIm c k = false) : sJb 308 c k = false := by
  unfold sIm at h; unfold sJb; simp at h ⊢; omega
theorem ln400 : ln 302 = 400 ∧ ln 309 = 400 ∧ ln 332 = 351 := by decide +kernel
theorem X_image (h : CM np nr W H ru pg rd nl F lw D w S jl acts pw σ) (e : EX np nr nl F D σ) (hD : D ≤ 60 * t) (hnp : 0 < np) : STEP t σ (fX9_image 0 σ) (fX10_image 310) := by
  have n4 := h.2.1.1.2.1
  have g := h.g
  have g1 := g.1
  obtain ⟨⟨b, L, e1⟩, e2, e3, ⟨sl, e4, e5, e6⟩, ⟨npl, e7⟩, e8⟩ := id e
  have f0 := h.rf.f0
  obtain ⟨σ1, k1, k2, k3⟩ := c_takeFrom (d := 303) (s := 89) (h.rf.sr (by unfold isSnow; omega)) h.rf.sr89 h.sc (by omega)
  have hF1 := h.rf.sm k2
  obtain ⟨σ2, j1, j2, j3⟩ := c_jtake (d := 308) (s := 301) hF1.j2 hF1.j1 ln400.2.1 ln400.1 (h.jc.sm k2 (fun k => ⟨by unfold sS; simp, by unfold sS; simp⟩)) (by omega)
  have hF2 := hF1.sm j2
  have s2 : Sm sIm σ (sI σ2 0 13 1) := ((k2.mono (fun c k hc => sS303 hc)).tr (j2.mono (fun c k hc => sJ308 hc))).sI rfl
  have s3 : Sm sIm σ (sI (sI σ2 0 13 1) 310 0 0) := s2.sI rfl
  obtain ⟨σ3, m1, m2, m3⟩ := m_copy (σ := sI (sI σ2 0 13 1) 310 0 0) (a0 := 323) (a1 := 332) ln323 ln400.2.2 (by omega)
  have s4 : Sm sIm σ (sI σ3 310 51 1) := (s3.tr (m2.mono (fun c k hc => by unfold sIm at hc; unfold sM; simp at hc ⊢; omega))).sI rfl
  have hkC : ∀ c k, kCC c k = true → sIm c k = false := fun c k hc => by unfold kCC at hc; unfold sIm; simp at hc ⊢; omega
  have hkM : ∀ c k, kMM c k = true → sIm c k = false := fun c k hc => by unfold kMM coreH at hc; unfold sIm; simp at hc ⊢; omega
  have hC := h.toz.ag2 s4 hkC hkM (fun k => ⟨rfl, rfl⟩)
  have hC3 := h.toz.ag2 s3 hkC hkM (fun k => ⟨rfl, rfl⟩)
  have q3 : Sm (fun c k => c == 0 || c == 310 || c == 332) σ2 (sI σ3 310 51 1) := ((((Sm.rf.sI rfl).sI rfl).tr (m2.mono (fun c k hc => by unfold sM; simp at hc ⊢; omega)))).sI rfl
  have r303 : SC (sI σ3 310 51 1) 303 w := (k3.sm j2 (fun j k hj => by unfold sJb; simp; omega)).sm q3 (fun j k hj => by simp; omega)
  have r308 : JC (sI σ3 310 51 1) 308 S jl := j3.sm q3 (fun k => ⟨rfl, rfl⟩)
  have rrow : RowAt (sI σ3 310 51 1) 332 0 w (min S 60) (mlg S 0 jl) := (RowAt.of hC3.mm.2.1 hC3.mm.2.2.1).cp (fun k hk => by
    rw [gI_sI, if_neg (by omega), Nat.zero_add]; exact m3 k hk)
  refine STEP.mk (v := w 109) (σ1 := sI σ2 0 13 1) (σ2 := sI σ3 310 51 1) ?_ ?_ hC (Or.inl rfl) ⟨⟨b, L, e1.sm s4 rfl rfl (fun k => ⟨rfl, rfl⟩)⟩, e2.sm n4 s4 rfl rfl rfl (fun j k hj => by unfold sIm; simp; omega), ?_, ⟨sl, e4, ?_, ?_⟩, ⟨npl, e7.sm s4 rfl rfl (fun c k hc => by unfold sIm; simp; omega)⟩, Or.inr ⟨?_, ?_, hnp, w, S, jl, r303, r308, rrow, h.wu, h.wz⟩⟩ (by omega)
  · unfold fX9_image
    rw [h.rf.hall, Option.bind_some, c_isOpen g h.hc, Option.bind_some, if_pos hnp, if_neg z1, f0.2.2.2.2.2.2.2.2.2.2.2.1, Option.bind_some, h.rf.now, Option.bind_some, k1, Option.bind_some, hF1.f0.2.2.2.2.2.2.2.2.2.2.2.2, Option.bind_some, hF1.jou, Option.bind_some, j1, Option.bind_some, hF2.now, Option.bind_some]
    have := (h.sc.sm s2 (fun j k hj => by unfold sIm; simp; omega)).2.2.2.2.2.1
    rw [this]
  · unfold fX10_image
    have e27 : gI (sI (sI σ2 0 13 1) 310 0 0) 310 27 = nI np := hC3.mm.1.hm.2.2.1
    rw [e27, if_neg (nI_ne0 hnp (by omega)), show gR (sI σ2 0 13 1) 310 33 = some 323 from hC3.mm.r33, Option.bind_some, show gR (sI σ2 0 13 1) 310 50 = some 332 from hC3.mm.1.hm.1.2.2.2.2.2.2.2.2.2.2.2.2.2.2.2.2.2.2.2.2.2.2.2, Option.bind_some, m1, Option.bind_some, show gR σ3 310 33 = some 323 from hC.mm.r33, Option.bind_some, ln323, if_pos (by decide), show Int32.toNatClampNeg 109 = 109 by decide, show gI (sI σ3 310 51 1) 323 109 = w 109 from hC.mm.2.1 109 (by omega)]
  · rw [s4.1 0 16 rfl, s4.1 310 36 rfl]; exact e3
  · rw [s4.1 0 17 rfl]; exact e5
  · rw [s4.1 310 37 rfl]; exact e6
  · rw [gI_sI, if_neg (by omega), m2.1 0 13 rfl, gI_sI, if_neg (by omega), gI_sI, if_pos ⟨rfl, rfl⟩]
  · rw [gI_sI, if_pos ⟨rfl, rfl⟩]
def sBk (c k : Nat) : Bool := sS 89 c k || sJb 301 c k || c == 99 || c == 323 || (c == 310 && (k == 0 || k == 42))
theorem X_back (h : CM np nr W H ru pg rd nl F lw D w S jl acts pw σ) (e : EX np nr nl F D σ) (hD : D ≤ 60 * t) : STEP t σ (fX9_back 0 σ) (fX10_back 310) := by
  have n4 := h.2.1.1.2.1
  have g := h.g
  have g1 := g.1
  have e8 := e.2.2.2.2.2
  rcases e8 with ⟨a, b⟩ | ⟨a, b, hnp, iw, iS, ijl, d1, d2, d3, d4, d5⟩
  · refine STEP.non (v := -1) h.toz (Or.inl rfl) e hD ?_ ?_
    · unfold fX9_back; rw [a, if_pos rfl]
    · unfold fX10_back; rw [show gI (sI σ 310 0 0) 310 51 = 0 from by rw [gI_sI, if_neg (by omega)]; exact b, if_pos rfl]
  · have f0 := h.rf.f0
    obtain ⟨σ1, k1, k2, k3⟩ := c_takeFrom (d := 89) (s := 303) h.rf.sr89 (h.rf.sr (by unfold isSnow; omega)) d1 (by omega)
    have hF1 := h.rf.sm k2
    obtain ⟨σ2, j1, j2, j3⟩ := c_jtake (d := 301) (s := 308) hF1.j1 hF1.j2 ln400.1 ln400.2.1 (d2.sm k2 (fun k => ⟨by unfold sS; simp, by unfold sS; simp⟩)) (by omega)
    have hF2 := hF1.sm j2
    generalize hσ3 : sI (sI σ2 99 1 0) 99 2 0 = σ3
    have p3 : Sm (fun c _ => c == 99) σ2 σ3 := by rw [← hσ3]; exact (Sm.rf.sI rfl).sI rfl
    have s3 : Sm sBk σ σ3 := ((k2.mono (fun c k hc => by unfold sBk at hc; simp only [Bool.or_eq_false_iff] at hc; exact hc.1.1.1.1)).tr (j2.mono (fun c k hc => by unfold sBk at hc; simp only [Bool.or_eq_false_iff] at hc; exact hc.1.1.1.2))).tr (p3.mono (fun c k hc => by unfold sBk at hc; simp only [Bool.or_eq_false_iff] at hc; exact hc.1.1.2))
    obtain ⟨σ4, m1, m2, m3⟩ := m_copy (σ := sI σ3 310 0 0) (a0 := 332) (a1 := 323) ln400.2.2 ln323 (by omega)
    have s4 : Sm sBk σ (sI σ4 310 42 0) := ((s3.sI rfl).tr (m2.mono (fun c k hc => by unfold sBk sS sJb at hc; unfold sM; simp at hc ⊢; omega))).sI rfl
    have q4 : Sm (fun c _ => c == 310 || c == 323) σ3 (sI σ4 310 42 0) := (((Sm.rf.sI rfl).tr (m2.mono (fun c k hc => by unfold sM; simp at hc ⊢; omega)))).sI rfl
    have q34 : Sm (fun c _ => c == 310 || c == 323 || c == 99) σ2 (sI σ4 310 42 0) := (p3.mono (fun c k hc => by simp at hc ⊢; omega)).tr (q4.mono (fun c k hc => by simp at hc ⊢; omega))
    have z99 : gI σ3 99 1 = nI 0 ∧ gI σ3 99 2 = nI 0 := by
      rw [← hσ3]
      exact ⟨by rw [gI_sI, if_neg (by omega), gI_sI, if_pos ⟨rfl, rfl⟩]; rfl, by rw [gI_sI, if_pos ⟨rfl, rfl⟩]; rfl⟩
    have nB : ∀ c k, ¬ ((89 ≤ c ∧ c ≤ 93) ∨ c = 99 ∨ c = 301 ∨ c = 302 ∨ c = 323 ∨ (c = 310 ∧ (k = 0 ∨ k = 42))) → sBk c k = false := fun c k hc => by
      unfold sBk sS sJb; simp; omega
    have hrow : RowAt (sI σ4 310 42 0) 323 0 iw (min iS 60) (mlg iS 0 ijl) := d3.cp (fun k hk => by
      rw [gI_sI, if_neg (by omega), Nat.zero_add, m3 k hk, (s3.sI (v := 0) (c := 310) (k := 0) rfl).1 332 k (nB _ _ (by omega))])
    have hC : CC (sI σ4 310 42 0) np nr W H ru pg rd lw iw iS ijl 0 pw := ⟨h.rf.sm s4, g, h.hc.sm s4 (by omega) (fun j k hj => nB _ _ (by omega)), h.hl.sm s4 (fun j k hj => ⟨nB _ _ (by omega), nB _ _ (by omega), nB _ _ (by omega)⟩), (k3.sm j2 (fun j k hj => by unfold sJb; simp; omega)).sm q34 (fun j k hj => by simp; omega), ⟨by omega, by rw [q4.1 99 1 rfl]; exact z99.1, 0, by omega, by rw [q4.1 99 2 rfl]; exact z99.2, fun u hu => by omega⟩, j3.sm q34 (fun k => ⟨rfl, rfl⟩)⟩
    have hE : ME (sI σ4 310 42 0) np nr W H ru pg rd nl F lw := h.mm.1.sm s4 (fun c k hc => nB _ _ (by unfold coreM coreH at hc; simp at hc; omega))
    have hM : MM (sI σ4 310 42 0) np nr W H ru pg rd nl F lw iw iS ijl 0 pw := ⟨hE, hrow.mw.1, hrow.mw.2, by omega, by rw [gI_sI, if_pos ⟨rfl, rfl⟩]; rfl, fun u hu => by omega⟩
    refine STEP.mk (v := iw 109) (σ1 := σ3) (σ2 := sI σ4 310 42 0) ?_ ?_ (CM.toz (show CM np nr W H ru pg rd nl F lw D iw iS ijl 0 pw _ from ⟨hC, hM, d4, d5, fun u hu => by omega, by omega⟩)) (Or.inl rfl) (e.sm n4 (Nat.le_refl _) s4 (fun c k hc => nB _ _ (by unfold exK at hc; simp at hc; omega))) (by omega)
    · unfold fX9_back fX4_clear
      rw [a, if_neg z1, h.rf.now, Option.bind_some, f0.2.2.2.2.2.2.2.2.2.2.2.1, Option.bind_some, k1, Option.bind_some, hF1.jou, Option.bind_some, hF1.f0.2.2.2.2.2.2.2.2.2.2.2.2, Option.bind_some, j1, Option.bind_some, hF2.past, Option.bind_some, Option.bind_some, hσ3, (hF2.sm p3).now, Option.bind_some]
      have := ((k3.sm j2 (fun j k hj => by unfold sJb; simp; omega)).sm p3 (fun j k hj => by simp; omega)).2.2.2.2.2.1
      rw [this]
    · unfold fX10_back
      have r50 : gR σ3 310 50 = some 332 := (s3.2.2 310 50 (by omega)).trans h.mm.1.hm.1.2.2.2.2.2.2.2.2.2.2.2.2.2.2.2.2.2.2.2.2.2.2.2
      have r33 : gR σ3 310 33 = some 323 := (s3.2.2 310 33 (by omega)).trans h.mm.r33
      rw [show gI (sI σ3 310 0 0) 310 51 = 1 from by rw [gI_sI, if_neg (by omega), s3.1 310 51 (nB _ _ (by omega))]; exact b, if_neg z1, r50, Option.bind_some, r33, Option.bind_some, m1, Option.bind_some, show gR σ4 310 33 = some 323 from hM.r33, Option.bind_some, ln323, if_pos (by decide), show Int32.toNatClampNeg 109 = 109 by decide, hM.2.1 109 (by omega)]
end Img
