/-! text: a hall opened, both -/
section Text0
variable {σ τ : Mm} {D np nr W H S acts nl t npl : Nat} {ru pg rd w : Nat → Int32} {F : Nat → LF} {lw : Option LF} {jl pw : Nat → Nat → Int32} {b : Nat → Nat} {L : Nat}
def sOp (c k : Nat) : Bool := (c == 310 && (k == 6 || k == 26 || k == 27 || k == 28 || k == 42 || k == 51)) || c == 315 || c == 317 || c == 319 || c == 323
/-- the model's half, behind the text that it read -/
theorem m_open {ru pg rd : Nat → Int32} (r : RM τ) (g : HB np nr W H ru pg rd) (h29 : gI τ 310 29 = nI np) (h30 : gI τ 310 30 = nI nr) (c0 : ∀ k, k < 5 → gI τ 316 k = ru k) (c1 : ∀ k, k < 4 * np → gI τ 318 k = pg k) (c2 : ∀ k, k < 4 * nr → gI τ 320 k = rd k) :
    ∃ τ', ((fX10_text_w223 310 0 (sI (sI (sI τ 310 6 0) 310 27 (gI (sI τ 310 6 0) 310 29)) 310 28 (gI (sI (sI τ 310 6 0) 310 27 (gI (sI τ 310 6 0) 310 29)) 310 30))).bind (fun o14 => (fun so14 => (fX10_text_w248 310 0 so14).bind (fun o20 => (fun so20 => (fX10_text_w274 310 0 so20).bind (fun o26 => (fun so26 => (gR so26 310 18).bind fun r27 => if ixB 0 (ln r27) = true then if ixB 1 (ln r27) = true then (fX10_text_w317 310 0 (sI so26 310 26 ((gI so26 r27 (Int32.toNatClampNeg 0)) * (gI so26 r27 (Int32.toNatClampNeg 1))))).bind (fun o33 => (fun so33 => (fX10_text_w339 310 0 so33).bind (fun o41 => (fun so41 => (fX10_text_w393 310 0 so41).bind (fun o47 => (fun so47 => (gR so47 310 33).bind fun r48 => (gR so47 310 18).bind fun r49 => if ixB 2 (ln r49) = true then if ixB 108 (ln r48) = true then some ((gI (sI (sI (sI so47 r48 (Int32.toNatClampNeg 108) (gI so47 r49 (Int32.toNatClampNeg 2))) 310 42 0) 310 51 0) 310 27), (sI (sI (sI so47 r48 (Int32.toNatClampNeg 108) (gI so47 r49 (Int32.toNatClampNeg 2))) 310 42 0) 310 51 0)) else none else none) o47)) o41)) o33) else none else none) o26)) o20)) o14)) = some (nI np, τ') ∧ Sm sOp τ τ' ∧ gI τ' 310 6 = 0 ∧ gI τ' 310 42 = 0 ∧ gI τ' 310 51 = 0 ∧ HM τ' np nr W H ru pg rd ∧ MW τ' 323 (sStart np nr ru pg rd) ∧ gI τ' 323 110 = 0 := by
  obtain ⟨g1, g2, g3, g4, g5, g6, -⟩ := id g
  have r18 : gR τ 310 18 = some 315 := r.2.2.2.2.2.2.1
  have r20 : gR τ 310 20 = some 317 := r.2.2.2.2.2.2.2.2.1
  have r22 : gR τ 310 22 = some 319 := r.2.2.2.2.2.2.2.2.2.2.1
  have r33 : gR τ 310 33 = some 323 := r.2.2.2.2.2.2.2.2.2.2.2.2.2.2.1
  have rm : ∀ {x : Mm}, Sm sOp τ x → RM x := fun s => by
    unfold RM at r ⊢
    have gh : ∀ k, k ≠ 5 → gR _ 310 k = gR τ 310 k := fun k hk => s.2.2 _ _ (by omega)
    rw [gh 1 (by omega), gh 2 (by omega), gh 3 (by omega), gh 4 (by omega), gh 15 (by omega), gh 16 (by omega), gh 18 (by omega), gh 19 (by omega), gh 20 (by omega), gh 21 (by omega), gh 22 (by omega), gh 23 (by omega), gh 24 (by omega), gh 25 (by omega), gh 33 (by omega), gh 34 (by omega), gh 35 (by omega), gh 38 (by omega), gh 39 (by omega), gh 40 (by omega), gh 41 (by omega), gh 48 (by omega), gh 49 (by omega), gh 50 (by omega)]
    exact r
  have e29 : gI (sI τ 310 6 0) 310 29 = nI np := by rw [gI_sI, if_neg (by omega)]; exact h29
  have e30 : gI (sI (sI τ 310 6 0) 310 27 (nI np)) 310 30 = nI nr := by rw [gI_sI, if_neg (by omega), gI_sI, if_neg (by omega)]; exact h30
  rw [e29, e30]
  generalize hu : sI (sI (sI τ 310 6 0) 310 27 (nI np)) 310 28 (nI nr) = u
  have s0 : Sm sOp τ u := by rw [← hu]; exact ((Sm.rf.sI rfl).sI rfl).sI rfl
  have u6 : gI u 310 6 = 0 := by rw [← hu, gI_sI, if_neg (by omega), gI_sI, if_neg (by omega), gI_sI, if_pos ⟨rfl, rfl⟩]
  have u27 : gI u 310 27 = nI np := by rw [← hu, gI_sI, if_neg (by omega), gI_sI, if_pos ⟨rfl, rfl⟩]
  have u28 : gI u 310 28 = nI nr := by rw [← hu, gI_sI, if_pos ⟨rfl, rfl⟩]
  obtain ⟨v1, a1, a2, a3⟩ := m_w223 (rm s0)
  have s1 : Sm sOp τ v1 := s0.tr (a2.mono (fun c k hc => by unfold sOp at hc; simp at hc ⊢; omega))
  obtain ⟨v2, b1, b2, b3⟩ := m_w248 (rm s1)
  have s2 : Sm sOp τ v2 := s1.tr (b2.mono (fun c k hc => by unfold sOp at hc; simp at hc ⊢; omega))
  obtain ⟨v3, d1, d2, d3⟩ := m_w274 (rm s2)
  have s3 : Sm sOp τ v3 := s2.tr (d2.mono (fun c k hc => by unfold sOp at hc; simp at hc ⊢; omega))
  have x315 : ∀ k, k < 5 → gI v3 315 k = ru k := fun k hk => by rw [d2.1 315 k rfl, b2.1 315 k rfl, a3 k hk, s0.1 316 k rfl]; exact c0 k hk
  have x317 : ∀ k, k < 4 * np → gI v3 317 k = pg k := fun k hk => by rw [d2.1 317 k rfl, b3 k (by omega), s1.1 318 k rfl]; exact c1 k hk
  have x319 : ∀ k, k < 4 * nr → gI v3 319 k = rd k := fun k hk => by rw [d3 k (by omega), s2.1 320 k rfl]; exact c2 k hk
  have wh26 : gI v3 315 (Int32.toNatClampNeg 0) * gI v3 315 (Int32.toNatClampNeg 1) = nI (W * H) := by
    rw [show Int32.toNatClampNeg 0 = 0 by decide, show Int32.toNatClampNeg 1 = 1 by decide, x315 0 (by omega), x315 1 (by omega), g5, g6, pk_mul]
  generalize hy : sI v3 310 26 (nI (W * H)) = y
  have sy : Sm sOp τ y := by rw [← hy]; exact s3.sI rfl
  have y3 : Sm (fun c k => c == 310 && k == 26) v3 y := by rw [← hy]; exact Sm.rf.sI rfl
  obtain ⟨v4, i1, i2, i3⟩ := m_w317 (τ := y) ((sy.2.2 _ _ (by omega)).trans r33)
  have s4 : Sm sOp τ v4 := sy.tr (i2.mono (fun c k hc => by unfold sOp at hc; simp at hc ⊢; omega))
  have k27 : gI v4 310 27 = nI np := by rw [i2.1 310 27 rfl, y3.1 310 27 rfl, d2.1 310 27 rfl, b2.1 310 27 rfl, a2.1 310 27 rfl]; exact u27
  obtain ⟨v5, j1, j2, j3⟩ := m_w339 (pg := pg) ((s4.2.2 _ _ (by omega)).trans r33) ((s4.2.2 _ _ (by omega)).trans r20) k27 g1 i3 (fun k hk => by rw [i2.1 317 k rfl, y3.1 317 k rfl]; exact x317 k hk)
  have s5 : Sm sOp τ v5 := s4.tr (j2.mono (fun c k hc => by unfold sOp at hc; simp at hc ⊢; omega))
  have k28 : gI v5 310 28 = nI nr := by rw [j2.1 310 28 rfl, i2.1 310 28 rfl, y3.1 310 28 rfl, d2.1 310 28 rfl, b2.1 310 28 rfl, a2.1 310 28 rfl]; exact u28
  obtain ⟨v6, l1, l2, l3, l4⟩ := m_w393 (rd := rd) ((s5.2.2 _ _ (by omega)).trans r33) ((s5.2.2 _ _ (by omega)).trans r22) k28 g2 (fun k hk => by rw [j2.1 319 k rfl, i2.1 319 k rfl, y3.1 319 k rfl]; exact x319 k hk) (fun k h1 h2 => by rw [j3 k h2, if_neg (by omega)])
  have s6 : Sm sOp τ v6 := s5.tr (l2.mono (fun c k hc => by unfold sOp at hc; simp at hc ⊢; omega))
  have t36 : Sm (fun c k => c == 323 || (c == 310 && k == 26)) v3 v6 := (((y3.mono (fun c k hc => by simp at hc ⊢; omega)).tr (i2.mono (fun c k hc => by simp at hc ⊢; omega))).tr (j2.mono (fun c k hc => by simp at hc ⊢; omega))).tr (l2.mono (fun c k hc => by simp at hc ⊢; omega))
  have z315 : ∀ k, k < 5 → gI v6 315 k = ru k := fun k hk => (t36.1 315 k rfl).trans (x315 k hk)
  generalize hf : sI (sI (sI v6 323 108 (ru 2)) 310 42 0) 310 51 0 = f
  have t6f : Sm (fun c k => (c == 323 && k == 108) || (c == 310 && (k == 42 || k == 51))) v6 f := by rw [← hf]; exact ((Sm.rf.sI rfl).sI rfl).sI rfl
  have sf : Sm sOp τ f := s6.tr (t6f.mono (fun c k hc => by unfold sOp at hc; simp at hc ⊢; omega))
  have f27 : gI f 310 27 = nI np := by rw [t6f.1 310 27 rfl, l2.1 310 27 rfl, j2.1 310 27 rfl]; exact k27
  refine ⟨f, ?_, sf, ?_, ?_, ?_, ⟨rm sf, ?_, f27, ?_, fun k hk => ?_, fun k hk => ?_, fun k hk => ?_⟩, fun k hk => ?_, ?_⟩
  · rw [a1, Option.bind_some]
    try dsimp only
    rw [b1, Option.bind_some]
    try dsimp only
    rw [d1, Option.bind_some]
    try dsimp only
    rw [show gR v3 310 18 = some 315 from (s3.2.2 _ _ (by omega)).trans r18, Option.bind_some, lnM.2.2.2.2.1, if_pos (by decide), if_pos (by decide), wh26, hy, i1, Option.bind_some]
    try dsimp only
    rw [j1, Option.bind_some]
    try dsimp only
    rw [l1, Option.bind_some]
    try dsimp only
    rw [show gR v6 310 33 = some 323 from (s6.2.2 _ _ (by omega)).trans r33, Option.bind_some, show gR v6 310 18 = some 315 from (s6.2.2 _ _ (by omega)).trans r18, Option.bind_some, lnM.2.2.2.2.1, ln323, if_pos (by decide), if_pos (by decide), show Int32.toNatClampNeg 108 = 108 by decide, show Int32.toNatClampNeg 2 = 2 by decide, z315 2 (by omega), hf, f27]
  · rw [t6f.1 310 6 rfl, t36.1 310 6 rfl, d2.1 310 6 rfl, b2.1 310 6 rfl, a2.1 310 6 rfl]; exact u6
  · rw [← hf, gI_sI, if_neg (by omega), gI_sI, if_pos ⟨rfl, rfl⟩]
  · rw [← hf, gI_sI, if_pos ⟨rfl, rfl⟩]
  · rw [t6f.1 310 26 rfl, l2.1 310 26 rfl, j2.1 310 26 rfl, i2.1 310 26 rfl, ← hy, gI_sI, if_pos ⟨rfl, rfl⟩]
  · rw [t6f.1 310 28 rfl, l2.1 310 28 rfl]; exact k28
  · rw [t6f.1 315 k rfl]; exact z315 k hk
  · rw [t6f.1 317 k rfl, t36.1 317 k rfl]; exact x317 k hk
  · rw [t6f.1 319 k rfl, t36.1 319 k rfl]; exact x319 k hk
  · have e3 : k ≠ 108 → gI f 323 k = gI v6 323 k := fun hn => t6f.1 323 k (by simp; omega)
    unfold sStart
    by_cases q1 : k < 24
    · rw [if_pos q1, e3 (by omega), l3 k q1, j3 k (by omega)]
      by_cases q : k / 2 < np
      · rw [if_pos q, if_pos (show k < 2 * np by omega)]
      · rw [if_neg q, if_neg (show ¬ k < 2 * np by omega)]
    · rw [if_neg q1]
      by_cases q2 : k < 108
      · rw [if_pos q2, e3 (by omega), l4 k (by omega) (by omega)]
      · rw [if_neg q2]
        by_cases q3 : k = 108
        · rw [if_pos q3, q3, ← hf, gI_sI, if_neg (by omega), gI_sI, if_neg (by omega), gI_sI, if_pos ⟨rfl, rfl⟩]
        · rw [if_neg q3, e3 q3, l4 k (by omega) (by omega), if_neg (by omega)]
  · rw [t6f.1 323 110 rfl, l4 110 (by omega) (by omega), if_neg (by omega)]
end Text0
