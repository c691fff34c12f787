/-! both sides whole: what holds between calls -/
def exK (c k : Nat) : Bool := (c == 1 && k == 1) || c == 2 || c == 311 || (c == 310 && (k == 6 || k == 7 || k == 31 || k == 36 || k == 37 || k == 51)) || (c == 0 && (decide (13 ≤ k) && decide (k ≤ 17))) || (decide (48 ≤ c) && (decide (c < 68) && !((c - 48) % 4 == 3))) || (decide (69 ≤ c) && decide (c ≤ 88)) || (decide (303 ≤ c) && decide (c ≤ 309)) || c == 321 || c == 322 || c == 332
def PLN (σ : Mm) (npl : Nat) : Prop := npl ≤ 4 ∧ gI σ 0 15 = nI npl ∧ gI σ 310 31 = nI npl ∧ ∀ j, j < npl → ∃ n, 1 ≤ n ∧ n ≤ 16 ∧ gI σ (69 + 4 * j) 4 = nI n ∧ gI σ 322 j = nI n ∧ ∀ i, i < n → StepOK (gI σ (70 + 4 * j) i) (gI σ (71 + 4 * j) i) (gI σ (72 + 4 * j) i) ∧ gI σ 321 (48 * j + 3 * i) = gI σ (70 + 4 * j) i ∧ gI σ 321 (48 * j + 3 * i + 1) = gI σ (71 + 4 * j) i ∧ gI σ 321 (48 * j + 3 * i + 2) = gI σ (72 + 4 * j) i
def IMG (σ : Mm) (np nr D : Nat) : Prop := (gI σ 0 13 = 0 ∧ gI σ 310 51 = 0) ∨ (gI σ 0 13 = 1 ∧ gI σ 310 51 = 1 ∧ 0 < np ∧ ∃ iw iS ijl, SC σ 303 iw ∧ JC σ 308 iS ijl ∧ RowAt σ 332 0 iw (min iS 60) (mlg iS 0 ijl) ∧ WU D iw ∧ WZ np nr iw)
def SLP (σ : Mm) (sl : Nat) : Prop := sl < 100 ∧ gI σ 0 17 = nI sl ∧ gI σ 310 37 = nI sl
def LWS (σ : Mm) (nl : Nat) (F : Nat → LF) : Prop := gI σ 0 14 = nI nl ∧ gI σ 310 7 = nI nl ∧ ∀ j, j < nl → LawOK σ (48 + 4 * j) (F j) ∧ (gI σ 310 36 = nI j → gR σ 11 2 = some (48 + 4 * j))
def EX (np nr nl : Nat) (F : Nat → LF) (D : Nat) (σ : Mm) : Prop := (∃ b L, TP σ b L) ∧ LWS σ nl F ∧ gI σ 0 16 = gI σ 310 36 ∧ (∃ sl, SLP σ sl) ∧ (∃ npl, PLN σ npl) ∧ IMG σ np nr D
section All
variable {σ σ' : Mm} {np nr nl D : Nat} {F : Nat → LF} {T : Nat → Nat → Bool}
theorem TP.sm {b : Nat → Nat} {L : Nat} (h : TP σ b L) (s : Sm T σ σ') (h1 : T 1 1 = false) (h2 : T 310 6 = false) (h3 : ∀ k, T 2 k = false ∧ T 311 k = false) : TP σ' b L :=
  ⟨h.1, by rw [s.1 _ _ h1]; exact h.2.1, by rw [s.1 _ _ h2]; exact h.2.2.1, fun k hk => by rw [s.1 _ _ (h3 k).1, s.1 _ _ (h3 k).2]; exact h.2.2.2 k hk⟩
theorem LawOK.sm {j : Nat} {f : LF} (h : LawOK σ (48 + 4 * j) f) (hj : j < 5) (s : Sm T σ σ') (hs : ∀ k, T (48 + 4 * j) k = false ∧ T (49 + 4 * j) k = false ∧ T (50 + 4 * j) k = false) : LawOK σ' (48 + 4 * j) f := by
  obtain ⟨h1, h2⟩ := h
  refine ⟨h1, fun σ2 e1 e2 e3 e4 => h2 σ2 (fun k => (e1 k).trans (s.1 _ _ ?_)) (fun k => (e2 k).trans (s.1 _ _ ?_)) (e3.trans (s.1 _ _ (hs 4).1)) (fun k => (e4 k).trans (s.2.2 _ _ (by omega)))⟩
  · rw [show 48 + 4 * j + 1 = 49 + 4 * j by omega]; exact (hs k).2.1
  · rw [show 48 + 4 * j + 2 = 50 + 4 * j by omega]; exact (hs k).2.2
theorem LWS.sm (h : LWS σ nl F) (hn : nl ≤ 4) (s : Sm T σ σ') (h1 : T 0 14 = false) (h2 : T 310 7 = false) (h3 : T 310 36 = false) (hs : ∀ j k, j < nl → T (48 + 4 * j) k = false ∧ T (49 + 4 * j) k = false ∧ T (50 + 4 * j) k = false) : LWS σ' nl F :=
  ⟨by rw [s.1 _ _ h1]; exact h.1, by rw [s.1 _ _ h2]; exact h.2.1, fun j hj => ⟨(h.2.2 j hj).1.sm (by omega) s (fun k => hs j k hj), by rw [s.1 _ _ h3, s.2.2 _ _ (by omega)]; exact (h.2.2 j hj).2⟩⟩
theorem PLN.sm {npl : Nat} (h : PLN σ npl) (s : Sm T σ σ') (h1 : T 0 15 = false) (h2 : T 310 31 = false) (hs : ∀ c k, (69 ≤ c ∧ c ≤ 88) ∨ c = 321 ∨ c = 322 → T c k = false) : PLN σ' npl := by
  obtain ⟨a1, a2, a3, a4⟩ := h
  refine ⟨a1, by rw [s.1 _ _ h1]; exact a2, by rw [s.1 _ _ h2]; exact a3, fun j hj => ?_⟩
  obtain ⟨n, b1, b2, b3, b4, b5⟩ := a4 j hj
  refine ⟨n, b1, b2, by rw [s.1 _ _ (hs _ _ (by omega))]; exact b3, by rw [s.1 _ _ (hs _ _ (by omega))]; exact b4, fun i hi => ?_⟩
  rw [s.1 _ _ (hs (70 + 4 * j) _ (by omega)), s.1 _ _ (hs (71 + 4 * j) _ (by omega)), s.1 _ _ (hs (72 + 4 * j) _ (by omega)), s.1 _ _ (hs 321 _ (by omega)), s.1 _ _ (hs 321 _ (by omega)), s.1 _ _ (hs 321 _ (by omega))]
  exact b5 i hi
theorem IMG.sm {D' : Nat} (h : IMG σ np nr D) (hD : D ≤ D') (s : Sm T σ σ') (h1 : T 0 13 = false) (h2 : T 310 51 = false) (hs : ∀ c k, (303 ≤ c ∧ c ≤ 309) ∨ c = 332 → T c k = false) : IMG σ' np nr D' := by
  rcases h with ⟨a, b⟩ | ⟨a, b, c, iw, iS, ijl, d1, d2, d3, d4, d5⟩
  · exact Or.inl ⟨by rw [s.1 _ _ h1]; exact a, by rw [s.1 _ _ h2]; exact b⟩
  · refine Or.inr ⟨by rw [s.1 _ _ h1]; exact a, by rw [s.1 _ _ h2]; exact b, c, iw, iS, ijl, d1.sm s (fun j k hj => hs _ _ (by omega)), d2.sm s (fun k => ⟨hs _ _ (by omega), hs _ _ (by omega)⟩), d3.cp (fun k hk => s.1 _ _ (hs _ _ (by omega))), d4.mono hD, d5⟩
theorem EX.sm {D' : Nat} (h : EX np nr nl F D σ) (hn : nl ≤ 4) (hD : D ≤ D') (s : Sm T σ σ') (hs : ∀ c k, exK c k = true → T c k = false) : EX np nr nl F D' σ' := by
  obtain ⟨⟨b, L, h1⟩, h2, h3, ⟨sl, h4⟩, ⟨npl, h5⟩, h6⟩ := h
  refine ⟨⟨b, L, h1.sm s (hs _ _ rfl) (hs _ _ rfl) (fun k => ⟨hs _ _ rfl, hs _ _ rfl⟩)⟩, h2.sm hn s (hs _ _ rfl) (hs _ _ rfl) (hs _ _ rfl) (fun j k hj => ⟨hs _ _ ?_, hs _ _ ?_, hs _ _ ?_⟩), by rw [s.1 _ _ (hs 0 16 rfl), s.1 _ _ (hs 310 36 rfl)]; exact h3, ⟨sl, h4.1, by rw [s.1 _ _ (hs 0 17 rfl)]; exact h4.2.1, by rw [s.1 _ _ (hs 310 37 rfl)]; exact h4.2.2⟩, ⟨npl, h5.sm s (hs _ _ rfl) (hs _ _ rfl) (fun c k hc => hs _ _ ?_)⟩, h6.sm hD s (hs _ _ rfl) (hs _ _ rfl) (fun c k hc => hs _ _ ?_)⟩
  · unfold exK; simp; omega
  · unfold exK; simp; omega
  · unfold exK; simp; omega
  · unfold exK; simp; omega
  · unfold exK; simp; omega
theorem exK_sAA (c k : Nat) (h : exK c k = true) : sAA c k = false := by
  unfold exK at h
  unfold sAA sAc sX sS sP sJb sAm sQ sK sG sU sT scr
  simp at h ⊢
  omega
theorem exK_sQQ (c k : Nat) (h : exK c k = true) : sQQ c k = false := by
  unfold exK at h
  unfold sQQ sK sG scr
  simp at h ⊢
  omega
/-- the snow of today but for what READERS remember: before the first hall the class's memories are not set -/
def SC0 (σ : Mm) (w : Nat → Int32) : Prop := gI σ 89 6 = w 109
def SCz (z : Bool) (σ : Mm) (w : Nat → Int32) (n : Nat) : Prop := SC0 σ w ∧ (z = true → SC σ 89 w) ∧ (z = true ∨ n = 0)
def CCz (z : Bool) (σ : Mm) (np nr W H : Nat) (ru pg rd : Nat → Int32) (lw : Option LF) (w : Nat → Int32) (S : Nat) (jl : Nat → Nat → Int32) (acts : Nat) (pw : Nat → Nat → Int32) : Prop :=
  RF σ ∧ HB np nr W H ru pg rd ∧ HC σ 3 np nr ru pg rd ∧ LW σ lw ∧ SCz z σ w (acts + S) ∧ PC σ acts pw ∧ JC σ 301 S jl
def CMz (z : Bool) (np nr W H : Nat) (ru pg rd : Nat → Int32) (nl : Nat) (F : Nat → LF) (lw : Option LF) (D : Nat) (w : Nat → Int32) (S : Nat) (jl : Nat → Nat → Int32) (acts : Nat) (pw : Nat → Nat → Int32) (σ : Mm) : Prop :=
  CCz z σ np nr W H ru pg rd lw w S jl acts pw ∧ MM σ np nr W H ru pg rd nl F lw w S jl acts pw ∧ WU D w ∧ WZ np nr w ∧ (∀ u, u < acts → WU D (pw u) ∧ WZ np nr (pw u)) ∧ acts ≤ S
/-- what holds before call T + 1 -/
def ALL (t : Nat) (σ : Mm) : Prop := ∃ z np nr W H ru pg rd nl F lw D w S jl acts pw, CMz z np nr W H ru pg rd nl F lw D w S jl acts pw σ ∧ (z = true ∨ np = 0) ∧ EX np nr nl F D σ ∧ D ≤ 60 * t
/-- a call of the class and of the model behind it: the same answer, and all holds again -/
def STEP (t : Nat) (σ : Mm) (c : Option (Int32 × Mm)) (m : Mm → Option (Int32 × Mm)) : Prop := ∃ v σ' σ'', c = some (v, σ') ∧ m σ' = some (v, σ'') ∧ ALL (t + 1) σ''
def STEV (t : Nat) (σ : Mm) (c : Option Int32) (m : Option (Int32 × Mm)) : Prop := ∃ v σ'', c = some v ∧ m = some (v, σ'') ∧ ALL (t + 1) σ''
variable {W H S acts t : Nat} {ru pg rd w : Nat → Int32} {lw : Option LF} {jl pw : Nat → Nat → Int32} {m : Mm → Option (Int32 × Mm)} {z : Bool}
theorem CM.toz (h : CM np nr W H ru pg rd nl F lw D w S jl acts pw σ) : CMz true np nr W H ru pg rd nl F lw D w S jl acts pw σ :=
  ⟨⟨h.1.1, h.1.2.1, h.1.2.2.1, h.1.2.2.2.1, ⟨h.1.2.2.2.2.1.2.2.2.2.2.1, fun _ => h.1.2.2.2.2.1, Or.inl rfl⟩, h.1.2.2.2.2.2⟩, h.2⟩
theorem CMz.cm (h : CMz z np nr W H ru pg rd nl F lw D w S jl acts pw σ) (hz : z = true) : CM np nr W H ru pg rd nl F lw D w S jl acts pw σ :=
  ⟨⟨h.1.1, h.1.2.1, h.1.2.2.1, h.1.2.2.2.1, h.1.2.2.2.2.1.2.1 hz, h.1.2.2.2.2.2⟩, h.2⟩
theorem CMz.g (h : CMz z np nr W H ru pg rd nl F lw D w S jl acts pw σ) : HB np nr W H ru pg rd := h.1.2.1
theorem CMz.rf (h : CMz z np nr W H ru pg rd nl F lw D w S jl acts pw σ) : RF σ := h.1.1
theorem CMz.hc (h : CMz z np nr W H ru pg rd nl F lw D w S jl acts pw σ) : HC σ 3 np nr ru pg rd := h.1.2.2.1
theorem CMz.hl (h : CMz z np nr W H ru pg rd nl F lw D w S jl acts pw σ) : LW σ lw := h.1.2.2.2.1
theorem CMz.pc (h : CMz z np nr W H ru pg rd nl F lw D w S jl acts pw σ) : PC σ acts pw := h.1.2.2.2.2.2.1
theorem CMz.jc (h : CMz z np nr W H ru pg rd nl F lw D w S jl acts pw σ) : JC σ 301 S jl := h.1.2.2.2.2.2.2
theorem CMz.mm (h : CMz z np nr W H ru pg rd nl F lw D w S jl acts pw σ) : MM σ np nr W H ru pg rd nl F lw w S jl acts pw := h.2.1
theorem CMz.wu (h : CMz z np nr W H ru pg rd nl F lw D w S jl acts pw σ) : WU D w := h.2.2.1
theorem CMz.wz (h : CMz z np nr W H ru pg rd nl F lw D w S jl acts pw σ) : WZ np nr w := h.2.2.2.1
theorem SCz.sm {n : Nat} (h : SCz z σ w n) (s : Sm T σ σ') (hs : ∀ c k, 89 ≤ c → c ≤ 93 → T c k = false) : SCz z σ' w n :=
  ⟨by show gI σ' 89 6 = w 109; rw [s.1 _ _ (hs _ _ (by omega) (by omega))]; exact h.1, fun hz => (h.2.1 hz).sm s (fun j k hj => hs _ _ (by omega) (by omega)), h.2.2⟩
theorem WK.all {c : Option (Int32 × Mm)} (h : CM np nr W H ru pg rd nl F lw D w S jl acts pw σ) (e : EX np nr nl F D σ) (hD : D ≤ 60 * t) (k : WK np nr W H ru pg rd nl F lw D σ c m) : STEP t σ c m := by
  obtain ⟨v, σ1, σ2, k1, k2, D', w', S', jl', acts', pw', k3, k4, k5⟩ := k
  have : D ≤ D' ∨ D' ≤ D := Nat.le_total D D'
  rcases this with z | z
  · exact ⟨v, σ1, σ2, k1, k2, true, np, nr, W, H, ru, pg, rd, nl, F, lw, D', w', S', jl', acts', pw', k3.toz, Or.inl rfl, e.sm h.2.1.1.2.1 z k4 exK_sAA, by omega⟩
  · have k3' : CM np nr W H ru pg rd nl F lw D w' S' jl' acts' pw' σ2 := ⟨k3.1, k3.2.1, k3.2.2.1.mono z, k3.2.2.2.1, fun u hu => ⟨(k3.2.2.2.2.1 u hu).1.mono z, (k3.2.2.2.2.1 u hu).2⟩, k3.2.2.2.2.2⟩
    exact ⟨v, σ1, σ2, k1, k2, true, np, nr, W, H, ru, pg, rd, nl, F, lw, D, w', S', jl', acts', pw', k3'.toz, Or.inl rfl, e.sm h.2.1.1.2.1 (Nat.le_refl _) k4 exK_sAA, by omega⟩
theorem WQ.all {c : Option (Int32 × Mm)} (h : CM np nr W H ru pg rd nl F lw D w S jl acts pw σ) (e : EX np nr nl F D σ) (hD : D ≤ 60 * t) (k : WQ np nr W H ru pg rd nl F lw σ c m) : STEP t σ c m := by
  obtain ⟨v, σ1, σ2, k1, k2, k3, k4⟩ := k
  exact ⟨v, σ1, σ2, k1, k2, true, np, nr, W, H, ru, pg, rd, nl, F, lw, D, w, S, jl, acts, pw, (h.qry k3 k4).toz, Or.inl rfl, e.sm h.2.1.1.2.1 (Nat.le_refl _) k3 exK_sQQ, by omega⟩
theorem WV.all {c : Option Int32} {m : Option (Int32 × Mm)} (h : CM np nr W H ru pg rd nl F lw D w S jl acts pw σ) (e : EX np nr nl F D σ) (hD : D ≤ 60 * t) (k : WV np nr W H ru pg rd nl F lw σ c m) : STEV t σ c m := by
  obtain ⟨v, σ2, k1, k2, k3, k4⟩ := k
  exact ⟨v, σ2, k1, k2, true, np, nr, W, H, ru, pg, rd, nl, F, lw, D, w, S, jl, acts, pw, (h.qry k3 k4).toz, Or.inl rfl, e.sm h.2.1.1.2.1 (Nat.le_refl _) k3 exK_sQQ, by omega⟩
end All
