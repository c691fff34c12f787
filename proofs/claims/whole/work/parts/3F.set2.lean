/-! calls that set: law, image, back; count -/
section Sets2
variable {σ σ' : Mm} {D np nr W H S acts nl t : Nat} {ru pg rd w : Nat → Int32} {F : Nat → LF} {lw : Option LF} {jl pw : Nat → Nat → Int32} {T : Nat → Nat → Bool} {z : Bool}
theorem gR_held {v : Option Nat} {c k : Nat} (h : ¬ (c = 11 ∧ k = 2)) : gR (sR σ 11 2 v) c k = gR σ c k := by rw [gR_sR, if_neg h]
theorem CCz.held {lw' : Option LF} {v : Option Nat} (h : CCz z σ np nr W H ru pg rd lw w S jl acts pw) (hl : LW (sR σ 11 2 v) lw') : CCz z (sR σ 11 2 v) np nr W H ru pg rd lw' w S jl acts pw := by
  obtain ⟨hF, g, hH, hL, h5, hP, hJ⟩ := h
  obtain ⟨a1, a2, a3, a4⟩ := hH
  exact ⟨hF.keep (fun c k _ hc => gR_held hc), g, ⟨(gR_held (by omega)).trans a1, (gR_held (by omega)).trans a2, (gR_held (by omega)).trans a3, a4⟩, hl, h5, hP, hJ⟩
theorem MM.held {v : Option Nat} (h : MM σ np nr W H ru pg rd nl F lw w S jl acts pw) : MM (sR σ 11 2 v) np nr W H ru pg rd nl F lw w S jl acts pw := by
  obtain ⟨⟨⟨r, h1⟩, h2, h3, h4, h5⟩, h6⟩ := h
  refine ⟨⟨⟨?_, h1⟩, h2, fun j hj => ?_, h4, h5⟩, h6⟩
  · unfold RM at r ⊢
    have gh : ∀ k, gR (sR σ 11 2 v) 310 k = gR σ 310 k := fun k => gR_held (by omega)
    simp only [gh]
    exact r
  · have L := h3 j hj
    intro σ2 e1 e2 e3 e4
    exact L σ2 e1 e2 (e3.trans (gR_held (by omega))) e4
def sLw (c k : Nat) : Bool := (c == 0 && k == 16) || (c == 310 && (k == 0 || k == 36))
/-- all but the law held -/
theorem CMz.hold {x : Int32} {v : Option Nat} {lw' : Option LF} (h : CMz z np nr W H ru pg rd nl F lw D w S jl acts pw σ) (e : EX np nr nl F D σ) (hl : LW (sR (sI σ 0 16 x) 11 2 v) lw') (hx : (x = -1 ∧ lw' = none) ∨ ∃ j, j < nl ∧ x = nI j ∧ lw' = some (F j) ∧ v = some (48 + 4 * j)) : CMz z np nr W H ru pg rd nl F lw' D w S jl acts pw (sI (sI (sR (sI σ 0 16 x) 11 2 v) 310 0 0) 310 36 x) ∧ EX np nr nl F D (sI (sI (sR (sI σ 0 16 x) 11 2 v) 310 0 0) 310 36 x) := by
  have n4 := h.2.1.1.2.1
  obtain ⟨⟨b, L, e1⟩, e2, e3, ⟨sl, e4, e5, e6⟩, ⟨npl, e7⟩, e8⟩ := id e
  have s0 : Sm sLw σ (sI σ 0 16 x) := Sm.rf.sI rfl
  have k1 : ∀ c k, kCC c k = true → sLw c k = false := fun c k hc => by unfold kCC at hc; unfold sLw; simp at hc ⊢; omega
  have hC0 := h.1.ag2 s0 k1
  have hM0 : MM (sI σ 0 16 x) np nr W H ru pg rd nl F lw w S jl acts pw := h.2.1.sm (Sm.rf.sI (S := fun c _ => c == 0) rfl) (fun c k hc => by have := kMM_hi hc; simp; omega) (fun k => ⟨rfl, rfl⟩)
  have s2 : Sm sLw (sR (sI σ 0 16 x) 11 2 v) (sI (sI (sR (sI σ 0 16 x) 11 2 v) 310 0 0) 310 36 x) := (Sm.rf.sI rfl).sI rfl
  have hM1 := hM0.held (v := v)
  refine ⟨⟨(hC0.held hl).ag2 s2 k1, ?_, h.2.2⟩, ?_⟩
  · obtain ⟨⟨b1, b2, b3, b4, b5⟩, b6, b7, b8⟩ := hM1
    refine ⟨⟨b1.sm s2 ⟨rfl, rfl, rfl⟩ (fun k => ⟨rfl, rfl, rfl⟩), b2, fun j hj => (b3 j hj).sm s2 (fun k => ⟨rfl, rfl⟩), fun z t c b d s n j hz h1 h2 h3 h4 h5 h6 h7 e => ?_, ?_⟩, b6.sm s2 (fun k => rfl), b7.sm s2 (fun k => rfl), b8.sm s2 (fun k => rfl) rfl⟩
    · rw [s2.2.1 326 z rfl] at e
      rw [s2.1 327 z rfl]
      exact b4 z t c b d s n j hz h1 h2 h3 h4 h5 h6 h7 e
    · rw [gI_sI, if_pos ⟨rfl, rfl⟩]
      rcases hx with z | ⟨j, a, b, c, d⟩
      · exact Or.inl z
      · exact Or.inr ⟨j, a, b, c⟩
  · have e2f : LWS (sI (sI (sR (sI σ 0 16 x) 11 2 v) 310 0 0) 310 36 x) nl F := by
      obtain ⟨a1, a2, a3⟩ := e2
      refine ⟨(s2.1 0 14 rfl).trans ((s0.1 0 14 rfl).trans a1), (s2.1 310 7 rfl).trans ((s0.1 310 7 rfl).trans a2), fun j hj => ⟨?_, fun z => ?_⟩⟩
      · have b0 := (a3 j hj).1.sm (show j < 5 by omega) s0 (fun k => by unfold sLw; simp; omega)
        obtain ⟨⟨j', hj', ej⟩, b2⟩ := b0
        have b1 : LawOK (sR (sI σ 0 16 x) 11 2 v) (48 + 4 * j) (F j) := ⟨⟨j', hj', ej⟩, fun σ2 e1 e2 e3 e4 => b2 σ2 e1 e2 e3 (fun k => (e4 k).trans (gR_held (by omega)))⟩
        exact b1.sm (show j < 5 by omega) s2 (fun k => by unfold sLw; simp; omega)
      · rw [gI_sI, if_pos ⟨rfl, rfl⟩] at z
        show gR (sR (sI σ 0 16 x) 11 2 v) 11 2 = some (48 + 4 * j)
        rw [gR_sR, if_pos ⟨rfl, rfl⟩]
        rcases hx with ⟨w, -⟩ | ⟨i, a, b, c, d⟩
        · exact absurd (z.symm.trans w) (fun y => (eqN1 (by omega)).mp y)
        · have : j = i := (eqT (by omega) (by omega)).mp (z.symm.trans b)
          rw [d, this]
    have r10 : TP (sI σ 0 16 x) b L := e1.sm s0 rfl rfl (fun k => ⟨rfl, rfl⟩)
    have r1 : TP (sR (sI σ 0 16 x) 11 2 v) b L := r10
    have r70 : PLN (sI σ 0 16 x) npl := e7.sm s0 rfl rfl (fun c k hc => by unfold sLw; simp; omega)
    have r7 : PLN (sR (sI σ 0 16 x) 11 2 v) npl := r70
    have r80 : IMG (sI σ 0 16 x) np nr D := e8.sm (Nat.le_refl _) s0 rfl rfl (fun c k hc => by unfold sLw; simp; omega)
    have r8 : IMG (sR (sI σ 0 16 x) 11 2 v) np nr D := r80
    refine ⟨⟨b, L, r1.sm s2 rfl rfl (fun k => ⟨rfl, rfl⟩)⟩, e2f, ?_, ⟨sl, e4, ?_, ?_⟩, ⟨npl, r7.sm s2 rfl rfl (fun c k hc => by unfold sLw; simp; omega)⟩, r8.sm (Nat.le_refl _) s2 rfl rfl (fun c k hc => by unfold sLw; simp; omega)⟩
    · rw [gI_sI, if_neg (by omega), gI_sI, if_neg (by omega), gI_sI, if_pos ⟨rfl, rfl⟩]
      show gI (sI σ 0 16 x) 0 16 = x
      rw [gI_sI, if_pos ⟨rfl, rfl⟩]
    · rw [s2.1 0 17 rfl]; exact (s0.1 0 17 rfl).trans e5
    · rw [s2.1 310 37 rfl]; exact (s0.1 310 37 rfl).trans e6
theorem isIn_m1 {x : Int32} {τ : Mm} : fX10_isIn (Int32.toInt64 x) 0 (Int32.toInt64 (nI 0 - 1)) τ = some 0 := by
  unfold fX10_isIn
  by_cases q : (Int32.toInt64 x).toInt < 0
  · have : lg_cmp (Int32.toInt64 x) 0 = -1 := by
      unfold lg_cmp
      rw [if_neg (by show ¬ (0 : Int64) < _; rw [Int64.lt_iff_toInt_lt]; have : (0 : Int64).toInt = 0 := by decide
                     omega), if_neg (fun z => by rw [z] at q; exact absurd q (by decide))]
    rw [this, if_pos (by decide)]
  · have e0 : (0 : Int64).toInt = 0 := by decide
    have em : (Int32.toInt64 (nI 0 - 1)).toInt = -1 := by decide
    have c1 : ¬ lg_cmp (Int32.toInt64 x) 0 < 0 := by
      unfold lg_cmp
      by_cases z : Int32.toInt64 x > 0
      · rw [if_pos z]; decide
      · rw [if_neg z, if_pos]
        · decide
        · apply Int64.toInt_inj.mp
          have : ¬ (0 : Int64) < Int32.toInt64 x := z
          rw [Int64.lt_iff_toInt_lt] at this
          omega
    have c2 : lg_cmp (Int32.toInt64 x) (Int32.toInt64 (nI 0 - 1)) = 1 := by
      unfold lg_cmp
      rw [if_pos (by show Int32.toInt64 (nI 0 - 1) < _; rw [Int64.lt_iff_toInt_lt]; omega)]
    rw [if_neg c1, c2, if_pos (by decide)]
theorem X_lawCall (h : CMz z np nr W H ru pg rd nl F lw D w S jl acts pw σ) (hz : z = true ∨ np = 0) (e : EX np nr nl F D σ) (hD : D ≤ 60 * t) (x : Int32) : STEP t σ (fX9_law 0 x σ) (fX10_law 310 x) := by
  have n4 := h.2.1.1.2.1
  have e2 := e.2.1
  obtain ⟨b1, b2, b3⟩ := id e2
  have r5 := h.rf.laws
  have r3 := h.rf.win
  have l47 : ln 47 = 5 := by decide +kernel
  by_cases q1 : x = -1
  · subst q1
    obtain ⟨k1, k2⟩ := h.hold (x := -1) (v := none) (lw' := none) e (by show gR (sR (sI σ 0 16 (-1)) 11 2 none) 11 2 = none; rw [gR_sR, if_pos ⟨rfl, rfl⟩]) (Or.inl ⟨rfl, rfl⟩)
    refine STEP.mk (v := 1) (σ1 := sR (sI σ 0 16 (-1)) 11 2 none) ?_ ?_ k1 hz k2 (by omega)
    · unfold fX9_law
      rw [if_neg (show ¬ (-1 : Int32) < -1 by decide), b1, if_neg (show ¬ nI nl ≤ -1 from fun z => (leN1 (by omega)).mp z), r5, Option.bind_some, l47, if_pos (show (-1 : Int32) < nI 5 by decide), r3, Option.bind_some, if_neg (show ¬ (0 : Int32) ≤ -1 by decide)]
      rfl
    · unfold fX10_law
      rw [if_pos rfl]
      rfl
  · by_cases q2 : ∃ j, j < nl ∧ x = nI j
    · obtain ⟨j, hj, rfl⟩ := q2
      have hl : LW (sR (sI σ 0 16 (nI j)) 11 2 (some (48 + 4 * j))) (some (F j)) := by
        refine ⟨48 + 4 * j, by rw [gR_sR, if_pos ⟨rfl, rfl⟩], ?_⟩
        obtain ⟨⟨j', hj', ej⟩, b2⟩ := (b3 j hj).1.sm (by omega) (Sm.rf.sI (S := sLw) rfl : Sm sLw σ (sI σ 0 16 (nI j))) (fun k => by unfold sLw; simp; omega)
        exact ⟨⟨j', hj', ej⟩, fun σ2 e1 e2 e3 e4 => b2 σ2 e1 e2 e3 (fun k => (e4 k).trans (gR_held (by omega)))⟩
      obtain ⟨k1, k2⟩ := h.hold (x := nI j) (v := some (48 + 4 * j)) e hl (Or.inr ⟨j, hj, rfl, rfl, rfl⟩)
      refine STEP.mk (v := 1) (σ1 := sR (sI σ 0 16 (nI j)) 11 2 (some (48 + 4 * j))) ?_ ?_ k1 hz k2 (by omega)
      · unfold fX9_law
        rw [if_neg (show ¬ nI j < -1 from fun z => (ltN1 (by omega)).mp z), b1, if_neg (show ¬ nI nl ≤ nI j from fun z => absurd ((leT (by omega) (by omega)).mp z) (by omega)), r5, Option.bind_some, l47, if_pos (show nI j < nI 5 from (ltT (by omega) (by omega)).mpr (by omega)), r3, Option.bind_some, if_pos (show (0 : Int32) ≤ nI j from (leT (a := 0) (by omega) (by omega)).mpr (by omega)), if_pos (ixT (by omega) (by omega)), clT (by omega), (h.rf.law (show j < 5 by omega)).1, Option.bind_some]
        rfl
      · unfold fX10_law
        rw [if_neg q1]
        have e7 : gI (sI (sR (sI σ 0 16 (nI j)) 11 2 (some (48 + 4 * j))) 310 0 0) 310 7 = nI nl := by
          rw [gI_sI, if_neg (by omega)]
          show gI (sI σ 0 16 (nI j)) 310 7 = nI nl
          rw [gI_sI, if_neg (by omega)]; exact b2
        have hin : ∀ τ, fX10_isIn (Int32.toInt64 (nI j)) 0 (Int32.toInt64 (nI nl - nI 1)) τ = some 1 := fun τ => by
          rw [pk_sub (by omega)]
          have e := nI_l (n := nl - 1) (by omega)
          rw [e]
          exact isInT (a := 0) (b := nl - 1) ⟨j, by omega, by omega, rfl⟩ (by omega)
        rw [e7]
        refine (congrArg (fun x => Option.bind x _) (hin _)).trans ?_
        rfl
    · refine STEP.non (v := 0) h hz e hD ?_ ?_
      · unfold fX9_law
        by_cases c1 : x < -1
        · rw [if_pos c1]
        · have nx : ¬ x < 0 := fun z => q1 (by
            rw [Int32.lt_iff_toInt_lt] at c1 z
            have em : (-1 : Int32).toInt = -1 := by decide
            have e0 : (0 : Int32).toInt = 0 := by decide
            apply Int32.toInt_inj.mp
            omega)
          obtain ⟨k, hk, rfl⟩ := nI_of nx
          rw [if_neg c1, b1, if_pos]
          refine (leT (by omega) (by omega)).mpr ?_
          apply Nat.le_of_not_lt
          intro z
          exact q2 ⟨k, z, rfl⟩
      · unfold fX10_law
        rw [if_neg q1, show gI (sI σ 310 0 0) 310 7 = nI nl from by rw [gI_sI, if_neg (by omega)]; exact b2]
        by_cases n0 : nl = 0
        · rw [n0, isIn_m1, Option.bind_some, if_pos rfl]
        · have hin : fX10_isIn (Int32.toInt64 x) 0 (lN (nl - 1)) (sI σ 310 0 0) = some 0 := isInF (a := 0) (b := nl - 1) (fun ⟨k, _, h2, h3⟩ => q2 ⟨k, by omega, h3⟩) (by omega) (by omega)
          rw [show (1 : Int32) = nI 1 from rfl, pk_sub (by omega), nI_l (by omega), hin, Option.bind_some, if_pos rfl]
end Sets2
