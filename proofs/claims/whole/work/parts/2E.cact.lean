/-! the class's acts: kept, carried out, logged -/
theorem ln302 : ln 302 = 400 ∧ ln 309 = 400 ∧ ln 100 = 40 := by decide +kernel
theorem sP_no89 (c k : Nat) (h : sP c k = true) : sX 89 c k = false := by
  unfold sP at h; unfold sX sS scr
  simp only [Bool.or_eq_true, Bool.and_eq_true, beq_iff_eq, decide_eq_true_eq] at h
  simp only [Bool.or_eq_false_iff, Bool.and_eq_false_imp, beq_eq_false_iff_ne, decide_eq_true_eq, decide_eq_false_iff_not, ne_eq]
  omega
section Past
variable {σ : Mm} {acts : Nat} {w : Nat → Int32} {pw : Nat → Nat → Int32}
theorem c_keep (hF : RF σ) (hP : PC σ acts pw) (hs : SC σ 89 w) : ∃ σ', fX4_keep 99 89 σ = some σ' ∧ Sm sP σ σ' ∧ PC σ' (min 40 (acts + 1)) (sPw w pw) := by
  obtain ⟨h1, h2, T, h3, h4, h5⟩ := hP
  unfold fX4_keep
  have hb : isSnow (101 + 5 * T) := by unfold isSnow; omega
  obtain ⟨τ, k1, k2, k3⟩ := c_takeFrom (d := 101 + 5 * T) (s := 89) (hF.sr hb) hF.sr89 hs (by omega)
  have hk : ∀ c k, sP c k = false → sS (101 + 5 * T) c k = false := fun c k hc => by
    unfold sP at hc; unfold sS
    simp only [Bool.or_eq_false_iff, Bool.and_eq_false_imp, beq_eq_false_iff_ne, decide_eq_true_eq, decide_eq_false_iff_not, ne_eq] at hc ⊢
    omega
  have z99 : ∀ k, sS (101 + 5 * T) 99 k = false := fun k => by
    unfold sS; simp only [Bool.and_eq_false_imp, decide_eq_true_eq, decide_eq_false_iff_not]; omega
  rw [h4, if_neg (nI_pos (by omega)), hF.p0, Option.bind_some, ln302.2.2, if_pos ((ltT (by omega) (by omega)).mpr h3), if_pos (ixT (by omega) (by omega)), clT (by omega), hF.pj h3, Option.bind_some, k1, Option.bind_some, k2.1 99 2 (z99 2), h4, nI_1, show (40 : Int32) = nI 40 from rfl, remN (by omega) (by omega) (by omega), gI_sI, if_neg (by omega), k2.1 99 1 (z99 1), h2, nI_1, minN _ _ (by omega) (by omega)]
  refine ⟨_, rfl, ((k2.mono hk).sI rfl).sI rfl, by omega, by rw [gI_sI, if_pos ⟨rfl, rfl⟩], (T + 1) % 40, by omega, by rw [gI_sI, if_neg (by omega), gI_sI, if_pos ⟨rfl, rfl⟩], fun u hu => ?_⟩
  have s2 : Sm (fun c _ => c == 99) τ (sI (sI τ 99 2 (nI ((T + 1) % 40))) 99 1 (nI (min 40 (acts + 1)))) := (Sm.rf.sI rfl).sI rfl
  have hz : ∀ x j k, j ≤ 4 → (fun c (_ : Nat) => c == 99) (101 + 5 * x + j) k = false := fun x j k hj => by
    simp only [beq_eq_false_iff_ne, ne_eq]; omega
  unfold sPw
  by_cases q : u = 0
  · subst q
    rw [if_pos rfl, show ((T + 1) % 40 + 39 - 0) % 40 = T by omega]
    exact k3.sm s2 (hz T)
  · rw [if_neg q, show ((T + 1) % 40 + 39 - u) % 40 = (T + 39 - (u - 1)) % 40 by omega]
    refine ((h5 (u - 1) (by omega)).sm k2 (fun j k hj => ?_)).sm s2 (hz _)
    unfold sS; simp only [Bool.and_eq_false_imp, decide_eq_true_eq, decide_eq_false_iff_not]; omega
theorem c_giveBack (hF : RF σ) (hP : PC σ acts pw) (h0 : 0 < acts) : ∃ σ', fX4_giveBack 99 89 σ = some (1, σ') ∧ Sm (fun c k => c == 99 || sS 89 c k) σ σ' ∧ PC σ' (acts - 1) (fun u => pw (u + 1)) ∧ SC σ' 89 (pw 0) := by
  obtain ⟨h1, h2, T, h3, h4, h5⟩ := hP
  unfold fX4_giveBack
  have e : remI (nI T + 40 - 1) 40 = nI ((T + 39) % 40) := by
    rw [show (40 : Int32) = nI 40 from rfl, nI_add, show (1 : Int32) = nI 1 from rfl, pk_sub (by omega), remN (by omega) (by omega) (by omega), show T + 40 - 1 = T + 39 by omega]
  have hb : isSnow (101 + 5 * ((T + 39) % 40)) := by unfold isSnow; omega
  have h50 := h5 0 h0
  rw [Nat.sub_zero] at h50
  obtain ⟨τ, k1, k2, k3⟩ := c_takeFrom (d := 89) (s := 101 + 5 * ((T + 39) % 40)) hF.sr89 (hF.sr hb) h50 (by omega)
  have z99 : ∀ k, sS 89 99 k = false := fun k => rfl
  rw [h2, if_neg (by intro z; have := (ltT (b := 1) (by omega) (by omega)).mp z; omega), h4, e, if_pos (nI_pos' (by omega)), hF.p0, Option.bind_some, ln302.2.2, if_pos (ixT (by omega) (by omega)), clT (by omega), hF.pj (by omega), Option.bind_some, k1, Option.bind_some, gI_sI, if_neg (by omega), k2.1 99 1 (z99 1), h2, show (1 : Int32) = nI 1 from rfl, pk_sub (by omega)]
  have s2 : Sm (fun c _ => c == 99) τ (sI (sI τ 99 2 (nI ((T + 39) % 40))) 99 1 (nI (acts - 1))) := (Sm.rf.sI rfl).sI rfl
  refine ⟨_, rfl, (k2.mono (fun c k hc => (Bool.or_eq_false_iff.mp hc).2)).tr (s2.mono (fun c k hc => (Bool.or_eq_false_iff.mp hc).1)), ⟨by omega, by rw [gI_sI, if_pos ⟨rfl, rfl⟩], (T + 39) % 40, by omega, by rw [gI_sI, if_neg (by omega), gI_sI, if_pos ⟨rfl, rfl⟩], fun u hu => ?_⟩, k3.sm s2 (fun j k hj => by simp only [beq_eq_false_iff_ne, ne_eq]; omega)⟩
  rw [show ((T + 39) % 40 + 39 - u) % 40 = (T + 39 - (u + 1)) % 40 by omega]
  refine ((h5 (u + 1) (by omega)).sm k2 (fun j k hj => ?_)).sm s2 (fun j k hj => by simp only [beq_eq_false_iff_ne, ne_eq]; omega)
  unfold sS; simp only [Bool.and_eq_false_imp, decide_eq_true_eq, decide_eq_false_iff_not]; omega
end Past
/-- what acts change on the class's side -/
def sAc (c k : Nat) : Bool := sX 89 c k || sP c k || sJb 301 c k
theorem sAc_X {c k : Nat} (h : sAc c k = false) : sX 89 c k = false := (Bool.or_eq_false_iff.mp (Bool.or_eq_false_iff.mp h).1).1
theorem sAc_P {c k : Nat} (h : sAc c k = false) : sP c k = false := (Bool.or_eq_false_iff.mp (Bool.or_eq_false_iff.mp h).1).2
theorem sAc_J {c k : Nat} (h : sAc c k = false) : sJb 301 c k = false := (Bool.or_eq_false_iff.mp h).2
/-- the class as far as acts go -/
def CC (σ : Mm) (np nr W H : Nat) (ru pg rd : Nat → Int32) (lw : Option LF) (w : Nat → Int32) (S : Nat) (jl : Nat → Nat → Int32) (acts : Nat) (pw : Nat → Nat → Int32) : Prop :=
  RF σ ∧ HB np nr W H ru pg rd ∧ HC σ 3 np nr ru pg rd ∧ LW σ lw ∧ SC σ 89 w ∧ PC σ acts pw ∧ JC σ 301 S jl
section CC
variable {σ : Mm} {np nr W H S acts : Nat} {ru pg rd w : Nat → Int32} {lw : Option LF} {jl pw : Nat → Nat → Int32}
theorem scr_lo {c k : Nat} (h : scr c k = true) : c = 12 ∨ (48 ≤ c ∧ c < 68 ∧ (c - 48) % 4 = 3) := by
  unfold scr at h
  simp only [Bool.or_eq_true, Bool.and_eq_true, beq_iff_eq, decide_eq_true_eq] at h
  omega
theorem scr_no {c k : Nat} (h : ¬ (c = 12 ∨ (48 ≤ c ∧ c < 68 ∧ (c - 48) % 4 = 3))) : scr c k = false := by
  cases e : scr c k with
  | false => rfl
  | true => exact absurd (scr_lo e) h
theorem sAc_no {c k : Nat} (h : ¬ (c = 12 ∨ (48 ≤ c ∧ c < 68 ∧ (c - 48) % 4 = 3))) (h2 : c < 89 ∨ 303 ≤ c) : sAc c k = false := by
  have := scr_no (k := k) h
  unfold sAc sX sS sP sJb
  rw [this]
  simp only [Bool.or_false, Bool.or_eq_false_iff, Bool.and_eq_false_imp, beq_eq_false_iff_ne, decide_eq_true_eq, decide_eq_false_iff_not, ne_eq]
  omega
theorem c_act {x y k lost : Int32} {w' : Nat → Int32} (h : CC σ np nr W H ru pg rd lw w S jl acts pw) (hc : ∀ σ1, RF σ1 → HC σ1 3 np nr ru pg rd → LW σ1 lw → SC σ1 89 w → ∃ σ2, fX8_carryOut 11 89 k x y σ1 = some (lost, σ2) ∧ Sm (sX 89) σ1 σ2 ∧ SC σ2 89 w') : ∃ σ', fX9_act 0 k x y σ = some σ' ∧ Sm sAc σ σ' ∧ CC σ' np nr W H ru pg rd lw w' (min 100 (S + 1)) (sJ jl k x y lost) (min 40 (acts + 1)) (sPw w pw) := by
  obtain ⟨hF, g, hH, hL, hs, hP, hJ⟩ := h
  obtain ⟨τ1, k1, k2, k3⟩ := c_keep hF hP hs
  have hP1 : ∀ c k, ¬ (c = 99 ∨ (101 ≤ c ∧ c ≤ 300)) → sP c k = false := fun c k hc => by
    unfold sP; simp only [Bool.or_eq_false_iff, Bool.and_eq_false_imp, beq_eq_false_iff_ne, decide_eq_true_eq, decide_eq_false_iff_not, ne_eq]; omega
  have hs1 := hs.sm k2 (fun j k hj => hP1 _ _ (by omega))
  have hH1 := hH.sm k2 (by omega) (fun j k hj => hP1 _ _ (by omega))
  have hL1 := hL.sm k2 (fun j k hj => ⟨hP1 _ _ (by omega), hP1 _ _ (by omega), hP1 _ _ (by omega)⟩)
  have hF1 := hF.sm k2
  have hJ1 := hJ.sm k2 (fun k => ⟨hP1 _ _ (by omega), hP1 _ _ (by omega)⟩)
  obtain ⟨τ2, j1, j2, j3⟩ := hc τ1 hF1 hH1 hL1 hs1
  have hX : ∀ c k, ¬ (c = 12 ∨ (48 ≤ c ∧ c < 68 ∧ (c - 48) % 4 = 3)) → ¬ (89 ≤ c ∧ c ≤ 93) → sX 89 c k = false := fun c k h1 h2 => by
    unfold sX sS; rw [scr_no h1]
    simp only [Bool.or_false, Bool.and_eq_false_imp, decide_eq_true_eq, decide_eq_false_iff_not]; omega
  have hF2 := hF1.sm j2
  obtain ⟨τ3, i1, i2, i3⟩ := c_jadd (b := 301) hF2.j1 ln302.1 (hJ1.sm j2 (fun k => ⟨hX _ _ (by omega) (by omega), hX _ _ (by omega) (by omega)⟩)) k x y lost
  have hJb : ∀ c k, ¬ (c = 301 ∨ c = 302) → sJb 301 c k = false := fun c k hc => by
    unfold sJb; simp only [Bool.or_eq_false_iff, beq_eq_false_iff_ne, ne_eq]; omega
  unfold fX9_act
  rw [hF.past, Option.bind_some, hF.now, Option.bind_some, k1, Option.bind_some, hF1.win, Option.bind_some, hF1.now, Option.bind_some, j1, bnd2_some, hF2.jou, Option.bind_some, i1]
  refine ⟨τ3, rfl, ((k2.mono (fun c k hc => sAc_P hc)).tr (j2.mono (fun c k hc => sAc_X hc))).tr (i2.mono (fun c k hc => sAc_J hc)), hF2.sm i2, g, (hH1.sm j2 (by omega) (fun j k hj => hX _ _ (by omega) (by omega))).sm i2 (by omega) (fun j k hj => hJb _ _ (by omega)), (hL1.sm j2 (fun j k hj => ⟨hX _ _ (by omega) (by omega), hX _ _ (by omega) (by omega), hX _ _ (by omega) (by omega)⟩)).sm i2 (fun j k hj => ⟨hJb _ _ (by omega), hJb _ _ (by omega), hJb _ _ (by omega)⟩), j3.sm i2 (fun j k hj => hJb _ _ (by omega)), (k3.sm j2 (fun c k hc => sP_no89 c k hc)).sm i2 (fun c k hc => hJb _ _ (by
    unfold sP at hc
    simp only [Bool.or_eq_true, Bool.and_eq_true, beq_iff_eq, decide_eq_true_eq] at hc
    omega)), i3⟩
theorem SB89 : SB 89 := Or.inr ⟨by omega, by omega⟩
theorem C_read (h : CC σ np nr W H ru pg rd lw w S jl acts pw) {r p : Nat} (hr : r < nr) (hp : p < np) : ∃ σ', fX9_act 0 0 (nI r) (nI p) σ = some σ' ∧ Sm sAc σ σ' ∧ CC σ' np nr W H ru pg rd lw (sRead lw np nr ru pg rd w r p) (min 100 (S + 1)) (sJ jl 0 (nI r) (nI p) (sReadL lw np nr ru pg rd w r p)) (min 40 (acts + 1)) (sPw w pw) :=
  c_act h (fun _ hF hH hL hs => c_read h.2.1 hH hF.wr hF.sr89 hs hL SB89 hr hp)
theorem C_recut (h : CC σ np nr W H ru pg rd lw w S jl acts pw) {r p : Nat} (hr : r < nr) (hp : p < np) : ∃ σ', fX9_act 0 1 (nI r) (nI p) σ = some σ' ∧ Sm sAc σ σ' ∧ CC σ' np nr W H ru pg rd lw (sRecut pg w r p) (min 100 (S + 1)) (sJ jl 1 (nI r) (nI p) 0) (min 40 (acts + 1)) (sPw w pw) :=
  c_act h (fun _ hF hH _ hs => c_recut h.2.1 hH hF.wr hF.sr89 hs SB89 hr hp)
theorem C_go (h : CC σ np nr W H ru pg rd lw w S jl acts pw) {r : Nat} (hr : r < nr) (c : Int32) : ∃ σ', fX9_act 0 2 (nI r) c σ = some σ' ∧ Sm sAc σ σ' ∧ CC σ' np nr W H ru pg rd lw (sGo w r c) (min 100 (S + 1)) (sJ jl 2 (nI r) c 0) (min 40 (acts + 1)) (sPw w pw) :=
  c_act h (fun _ hF hH _ hs => c_go h.2.1 hH hF.wr hF.sr89 hs SB89 hr c)
theorem C_tell (h : CC σ np nr W H ru pg rd lw w S jl acts pw) {r o : Nat} (hr : r < nr) (ho : o < nr) (hro : r ≠ o) : ∃ σ', fX9_act 0 3 (nI r) (nI o) σ = some σ' ∧ Sm sAc σ σ' ∧ CC σ' np nr W H ru pg rd lw (sTell np r o (uw w (25 + 14 * r) 1)) (min 100 (S + 1)) (sJ jl 3 (nI r) (nI o) 0) (min 40 (acts + 1)) (sPw w pw) :=
  c_act h (fun _ hF hH _ hs => c_tell h.2.1 hH hF.wr hF.sr89 hs SB89 hr ho hro)
theorem C_night (h : CC σ np nr W H ru pg rd lw w S jl acts pw) (x y : Int32) : ∃ σ', fX9_act 0 4 x y σ = some σ' ∧ Sm sAc σ σ' ∧ CC σ' np nr W H ru pg rd lw (sNight ru np w) (min 100 (S + 1)) (sJ jl 4 x y (sNightL ru np w)) (min 40 (acts + 1)) (sPw w pw) :=
  c_act h (fun _ hF hH _ hs => c_night h.2.1 hH hF.wr hF.sr89 hs SB89 x y)
theorem C_hare (h : CC σ np nr W H ru pg rd lw w S jl acts pw) (x c : Int32) : ∃ σ', fX9_act 0 5 x c σ = some σ' ∧ Sm sAc σ σ' ∧ CC σ' np nr W H ru pg rd lw (sCut (fun p => decide (pg (4 * p) = c)) 3 np w) (min 100 (S + 1)) (sJ jl 5 x c (sCutL (fun p => decide (pg (4 * p) = c)) 3 w np)) (min 40 (acts + 1)) (sPw w pw) :=
  c_act h (fun _ hF hH _ hs => c_hare h.2.1 hH hF.wr hF.sr89 hs SB89 x c)
end CC
