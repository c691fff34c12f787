/-! calls that set: slips, end, law, image, back
-/
def kCC (c _k : Nat) : Bool := (decide (3 ≤ c) && decide (c ≤ 6)) || (decide (48 ≤ c) && (decide (c < 68) && !((c - 48) % 4 == 3))) || (decide (89 ≤ c) && decide (c ≤ 93)) || (decide (99 ≤ c) && decide (c ≤ 302))
section Sets
variable {σ σ' : Mm} {D np nr W H S acts nl t : Nat} {ru pg rd w : Nat → Int32} {F : Nat → LF} {lw : Option LF} {jl pw : Nat → Nat → Int32} {T : Nat → Nat → Bool} {z : Bool}
theorem kCC_y {c k : Nat} (h : (3 ≤ c ∧ c ≤ 6) ∨ (48 ≤ c ∧ c < 68 ∧ ¬ (c - 48) % 4 = 3) ∨ (89 ≤ c ∧ c ≤ 93) ∨ (99 ≤ c ∧ c ≤ 302)) : kCC c k = true := by
  unfold kCC; simp; omega
theorem CCz.ag2 (h : CCz z σ np nr W H ru pg rd lw w S jl acts pw) (s : Sm T σ σ') (hs : ∀ c k, kCC c k = true → T c k = false) : CCz z σ' np nr W H ru pg rd lw w S jl acts pw := by
  obtain ⟨hF, g, hH, hL, h5, hP, hJ⟩ := h
  refine ⟨hF.sm s, g, hH.sm s (by omega) (fun j k hj => hs _ _ (kCC_y (by omega))), hL.sm s (fun j k hj => ⟨hs _ _ (kCC_y (by omega)), hs _ _ (kCC_y (by omega)), hs _ _ (kCC_y (by omega))⟩), h5.sm s (fun c k h1 h2 => hs _ _ (kCC_y (by omega))), hP.sm s (fun c k hc => hs _ _ (kCC_y ?_)), hJ.sm s (fun k => ⟨hs _ _ (kCC_y (by omega)), hs _ _ (kCC_y (by omega))⟩)⟩
  unfold sP at hc
  simp at hc
  omega
theorem CMz.ag2 (h : CMz z np nr W H ru pg rd nl F lw D w S jl acts pw σ) (s : Sm T σ σ') (hs : ∀ c k, kCC c k = true → T c k = false) (hm : ∀ c k, kMM c k = true → T c k = false) (h2 : ∀ k, T 326 k = false ∧ T 327 k = false) : CMz z np nr W H ru pg rd nl F lw D w S jl acts pw σ' :=
  ⟨h.1.ag2 s hs, h.2.1.sm s hm h2, h.2.2⟩
/-- the two answers of a truth value -/
theorem STEP.mk {v : Int32} {σ1 σ2 : Mm} {c : Option (Int32 × Mm)} {m : Mm → Option (Int32 × Mm)} {D' : Nat} {w' : Nat → Int32} {S' : Nat} {jl' : Nat → Nat → Int32} {acts' : Nat} {pw' : Nat → Nat → Int32} {lw' : Option LF} (h1 : c = some (v, σ1)) (h2 : m σ1 = some (v, σ2)) (h3 : CMz z np nr W H ru pg rd nl F lw' D' w' S' jl' acts' pw' σ2) (hz : z = true ∨ np = 0) (h4 : EX np nr nl F D' σ2) (h5 : D' ≤ 60 * (t + 1)) : STEP t σ c m :=
  ⟨v, σ1, σ2, h1, h2, _, _, _, _, _, _, _, _, _, _, _, _, _, _, _, _, _, h3, hz, h4, h5⟩
theorem EX.thr (h : EX np nr nl F D σ) (hn : nl ≤ 4) : EX np nr nl F D (sI σ 310 0 0) := h.sm hn (Nat.le_refl _) (Sm.rf.sI (S := sT) rfl) (fun c k hc => by
  unfold exK at hc; unfold sT; simp at hc ⊢; omega)
theorem CMz.thr (h : CMz z np nr W H ru pg rd nl F lw D w S jl acts pw σ) : CMz z np nr W H ru pg rd nl F lw D w S jl acts pw (sI σ 310 0 0) :=
  h.ag2 (Sm.rf.sI (S := sT) rfl) (fun c k hc => by unfold kCC at hc; unfold sT; simp at hc ⊢; omega) kMM_sT (fun k => ⟨rfl, rfl⟩)
theorem STEP.non {v : Int32} {c : Option (Int32 × Mm)} {m : Mm → Option (Int32 × Mm)} (h : CMz z np nr W H ru pg rd nl F lw D w S jl acts pw σ) (hz : z = true ∨ np = 0) (e : EX np nr nl F D σ) (hD : D ≤ 60 * t) (h1 : c = some (v, σ)) (h2 : m σ = some (v, sI σ 310 0 0)) : STEP t σ c m :=
  STEP.mk h1 h2 h.thr hz (e.thr h.2.1.1.2.1) (by omega)
def sSl (c k : Nat) : Bool := (c == 0 && k == 17) || (c == 310 && (k == 0 || k == 37))
theorem X_slips (h : CMz z np nr W H ru pg rd nl F lw D w S jl acts pw σ) (hz : z = true ∨ np = 0) (e : EX np nr nl F D σ) (hD : D ≤ 60 * t) (x : Int32) : STEP t σ (fX9_slips 0 x σ) (fX10_slips 310 x) := by
  obtain ⟨⟨b, L, e1⟩, e2, e3, ⟨sl, e4, e5, e6⟩, ⟨npl, e7⟩, e8⟩ := id e
  have n4 := h.2.1.1.2.1
  by_cases hx : ∃ k, 0 ≤ k ∧ k ≤ 99 ∧ x = nI k
  · have hin : ∀ τ, fX10_isIn (Int32.toInt64 x) 0 99 τ = some 1 := fun τ => isInT (a := 0) (b := 99) hx (by omega)
    obtain ⟨k, -, hk, rfl⟩ := hx
    have c0 : ¬ nI k < 0 := fun z => absurd ((ltT (b := 0) (by omega) (by omega)).mp z) (by omega)
    have c9 : ¬ (99 : Int32) < nI k := fun z => absurd ((ltT (a := 99) (by omega) (by omega)).mp z) (by omega)
    by_cases q : k = sl
    · subst q
      refine STEP.non (v := 0) h hz e hD ?_ ?_
      · unfold fX9_slips
        rw [if_neg c0, if_neg c9, e5, if_pos rfl]
      · unfold fX10_slips
        rw [hin, Option.bind_some, if_neg z1, show gI (sI σ 310 0 0) 310 37 = nI k from by rw [gI_sI, if_neg (by omega)]; exact e6, if_pos rfl]
    · have nq : ¬ nI k = nI sl := fun z => q ((eqT (by omega) (by omega)).mp z)
      have s : Sm sSl σ (sI (sI (sI σ 0 17 (nI k)) 310 0 0) 310 37 (nI k)) := ((Sm.rf.sI rfl).sI rfl).sI rfl
      refine STEP.mk (v := 1) (σ1 := sI σ 0 17 (nI k)) (σ2 := sI (sI (sI σ 0 17 (nI k)) 310 0 0) 310 37 (nI k)) ?_ ?_ (h.ag2 s ?_ ?_ (fun k => ⟨rfl, rfl⟩)) hz ⟨⟨b, L, e1.sm s rfl rfl (fun k => ⟨rfl, rfl⟩)⟩, e2.sm n4 s rfl rfl rfl (fun j k hj => ?_), ?_, ⟨k, by omega, ?_, ?_⟩, ⟨npl, e7.sm s rfl rfl ?_⟩, e8.sm (Nat.le_refl _) s rfl rfl ?_⟩ (by omega)
      · unfold fX9_slips
        rw [if_neg c0, if_neg c9, e5, if_neg nq]
      · unfold fX10_slips
        rw [hin, Option.bind_some, if_neg z1, show gI (sI (sI σ 0 17 (nI k)) 310 0 0) 310 37 = nI sl from by rw [gI_sI, if_neg (by omega), gI_sI, if_neg (by omega)]; exact e6, if_neg nq]
      · intro c k hc; unfold kCC at hc; unfold sSl; simp at hc ⊢; omega
      · intro c k hc; unfold kMM coreH at hc; unfold sSl; simp at hc ⊢; omega
      · unfold sSl; simp; omega
      · simp [gI_sI]; exact e3
      · simp [gI_sI]
      · simp [gI_sI]
      · intro c k hc; unfold sSl; simp; omega
      · intro c k hc; unfold sSl; simp; omega
  · have hin : ∀ τ, fX10_isIn (Int32.toInt64 x) 0 99 τ = some 0 := fun τ => isInF (a := 0) (b := 99) hx (by omega) (by omega)
    refine STEP.non (v := 0) h hz e hD ?_ ?_
    · unfold fX9_slips
      by_cases q1 : x < 0
      · rw [if_pos q1]
      · rw [if_neg q1]
        obtain ⟨k, hk, rfl⟩ := nI_of q1
        rw [if_pos]
        refine (ltT (a := 99) (by omega) (by omega)).mpr ?_
        apply Nat.lt_of_not_le
        intro z
        exact hx ⟨k, by omega, z, rfl⟩
    · unfold fX10_slips
      rw [hin, Option.bind_some, if_pos rfl]
def sEn (c k : Nat) : Bool := (c == 1 && k == 1) || (c == 310 && (k == 0 || k == 6))
theorem X_end (h : CMz z np nr W H ru pg rd nl F lw D w S jl acts pw σ) (hz : z = true ∨ np = 0) (e : EX np nr nl F D σ) (hD : D ≤ 60 * t) (x : Int32) : STEP t σ (fX9_end 0 x σ) (fX10_end 310 x) := by
  obtain ⟨⟨b, L, e1⟩, e2, e3, ⟨sl, e4, e5, e6⟩, ⟨npl, e7⟩, e8⟩ := id e
  have n4 := h.2.1.1.2.1
  have r0 : gR σ 0 0 = some 1 := h.rf.f0.1
  obtain ⟨t1, t2, t3, t4⟩ := e1
  by_cases q1 : x < 0
  · refine STEP.non (v := 0) h hz e hD ?_ ?_
    · unfold fX9_end; rw [if_pos q1]
    · unfold fX10_end; rw [if_pos q1]
  · obtain ⟨k, hk, rfl⟩ := nI_of q1
    by_cases q2 : k ≤ L
    · have le : nI k ≤ nI L := (leT (by omega) (by omega)).mpr q2
      have s : Sm sEn σ (sI (sI (sI σ 1 1 (nI k)) 310 0 0) 310 6 (nI k)) := ((Sm.rf.sI rfl).sI rfl).sI rfl
      refine STEP.mk (v := 1) (σ1 := sI σ 1 1 (nI k)) (σ2 := sI (sI (sI σ 1 1 (nI k)) 310 0 0) 310 6 (nI k)) ?_ ?_ (h.ag2 s ?_ ?_ (fun k => ⟨rfl, rfl⟩)) hz ⟨⟨b, k, by omega, ?_, ?_, fun i hi => ?_⟩, e2.sm n4 s rfl rfl rfl (fun j k hj => ?_), ?_, ⟨sl, e4, ?_, ?_⟩, ⟨npl, e7.sm s rfl rfl ?_⟩, e8.sm (Nat.le_refl _) s rfl rfl ?_⟩ (by omega)
      · unfold fX9_end
        rw [if_neg q1, r0, Option.bind_some, t2, if_pos le]
      · unfold fX10_end
        rw [if_neg q1, show gI (sI (sI σ 1 1 (nI k)) 310 0 0) 310 6 = nI L from by rw [gI_sI, if_neg (by omega), gI_sI, if_neg (by omega)]; exact t3, if_pos le]
      · intro c k hc; unfold kCC at hc; unfold sEn; simp at hc ⊢; omega
      · intro c k hc; unfold kMM coreH at hc; unfold sEn; simp at hc ⊢; omega
      · simp [gI_sI]
      · simp [gI_sI]
      · rw [s.1 2 i rfl, s.1 311 i rfl]; exact t4 i (by omega)
      · unfold sEn; simp; omega
      · rw [s.1 _ _ rfl, s.1 _ _ rfl]; exact e3
      · rw [s.1 _ _ rfl]; exact e5
      · rw [s.1 _ _ rfl]; exact e6
      · intro c k hc; unfold sEn; simp; omega
      · intro c k hc; unfold sEn; simp; omega
    · have le : ¬ nI k ≤ nI L := fun z => q2 ((leT (by omega) (by omega)).mp z)
      refine STEP.non (v := 0) h hz e hD ?_ ?_
      · unfold fX9_end; rw [if_neg q1, r0, Option.bind_some, t2, if_neg le]
      · unfold fX10_end; rw [if_neg q1, show gI (sI σ 310 0 0) 310 6 = nI L from by rw [gI_sI, if_neg (by omega)]; exact t3, if_neg le]
/-- a journal copied whole -/
theorem c_jtake {d s : Nat} (hd : gR σ d 0 = some (d + 1)) (hr : gR σ s 0 = some (s + 1)) (l1 : ln (d + 1) = 400) (l2 : ln (s + 1) = 400) (h : JC σ s S jl) (hne : d + 2 ≤ s ∨ s + 2 ≤ d) : ∃ σ', fX2_takeFrom d s σ = some σ' ∧ Sm (sJb d) σ σ' ∧ JC σ' d S jl := by
  obtain ⟨h1, h2, T, h3, h4, h5⟩ := h
  unfold fX2_takeFrom
  rw [hr, Option.bind_some, hd, Option.bind_some, l1, l2, if_pos (cpB0 (by omega))]
  simp only [cpy0 _ _ (show 400 < 2147483648 by omega)]
  have s0 : Sm (sJb d) σ (sA σ (d + 1) (cp0 (gI σ (s + 1)) (gI σ (d + 1)) 400)) := Sm.rf.sA (fun k => by unfold sJb; simp)
  refine ⟨_, rfl, (s0.sI (by unfold sJb; simp)).sI (by unfold sJb; simp), h1, ?_, T, h3, ?_, fun i j hi hj => ?_⟩
  · rw [gI_sI, if_neg (by omega), gI_sI, if_pos ⟨rfl, rfl⟩, gI_sA, if_neg (by omega)]; exact h2
  · rw [gI_sI, if_pos ⟨rfl, rfl⟩, gI_sI, if_neg (by omega), gI_sA, if_neg (by omega)]; exact h4
  · rw [gI_sI, if_neg (by omega), gI_sI, if_neg (by omega), gI_sA, if_pos rfl]
    unfold cp0
    rw [if_pos (by omega)]
    exact h5 i j hi hj
end Sets
