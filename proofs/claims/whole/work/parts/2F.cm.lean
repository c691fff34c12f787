/-! both sides together, as far as acts go -/
def MM (σ : Mm) (np nr W H : Nat) (ru pg rd : Nat → Int32) (nl : Nat) (F : Nat → LF) (lw : Option LF) (w : Nat → Int32) (S : Nat) (jl : Nat → Nat → Int32) (acts : Nat) (pw : Nat → Nat → Int32) : Prop :=
  ME σ np nr W H ru pg rd nl F lw ∧ MW σ 323 w ∧ MLg σ 323 (min S 60) (mlg S 0 jl) ∧ MP σ acts pw S jl
def kMM (c k : Nat) : Bool := coreH c k || c == 323 || c == 329 || (c == 310 && k == 42)
def sT (c k : Nat) : Bool := c == 310 && k == 0
def sAm (c k : Nat) : Bool := sQ 323 c k || sU c k
section MMs
variable {σ : Mm} {D np nr W H S acts nl : Nat} {ru pg rd w : Nat → Int32} {F : Nat → LF} {lw : Option LF} {jl pw : Nat → Nat → Int32}
theorem MM.smK {T : Nat → Nat → Bool} {σ' : Mm} (h : MM σ np nr W H ru pg rd nl F lw w S jl acts pw) (hE : ME σ' np nr W H ru pg rd nl F lw) (s : Sm T σ σ') (hs : ∀ c k, kMM c k = true → T c k = false) : MM σ' np nr W H ru pg rd nl F lw w S jl acts pw :=
  ⟨hE, h.2.1.sm s (fun k => hs _ _ (by unfold kMM; simp)), h.2.2.1.sm s (fun k => hs _ _ (by unfold kMM; simp)), h.2.2.2.sm s (fun k => hs _ _ (by unfold kMM; simp)) (hs _ _ (by unfold kMM; simp))⟩
theorem MM.sm {T : Nat → Nat → Bool} {σ' : Mm} (h : MM σ np nr W H ru pg rd nl F lw w S jl acts pw) (s : Sm T σ σ') (hs : ∀ c k, kMM c k = true → T c k = false) (hs2 : ∀ k, T 326 k = false ∧ T 327 k = false) : MM σ' np nr W H ru pg rd nl F lw w S jl acts pw :=
  h.smK (h.1.sm s (fun c k hc => by
    unfold coreM at hc
    simp only [Bool.or_eq_true, beq_iff_eq] at hc
    rcases hc with (hc | hc) | hc
    · exact hs c k (by unfold kMM; rw [hc]; rfl)
    · rw [hc]; exact (hs2 k).1
    · rw [hc]; exact (hs2 k).2)) s hs
theorem kMM_sT (c k : Nat) (h : kMM c k = true) : sT c k = false := by
  unfold kMM coreH at h; unfold sT
  simp only [Bool.or_eq_true, Bool.and_eq_true, beq_iff_eq] at h
  simp only [Bool.and_eq_false_imp, beq_iff_eq, beq_eq_false_iff_ne, ne_eq]
  omega
theorem MM.thr (h : MM σ np nr W H ru pg rd nl F lw w S jl acts pw) : MM (sI σ 310 0 0) np nr W H ru pg rd nl F lw w S jl acts pw :=
  h.sm (Sm.rf.sI (S := sT) rfl) kMM_sT (fun k => ⟨rfl, rfl⟩)
theorem MM.r33 (h : MM σ np nr W H ru pg rd nl F lw w S jl acts pw) : gR σ 310 33 = some 323 := h.1.hm.1.2.2.2.2.2.2.2.2.2.2.2.2.2.2.1
theorem MM.r34 (h : MM σ np nr W H ru pg rd nl F lw w S jl acts pw) : gR σ 310 34 = some 324 := h.1.hm.1.2.2.2.2.2.2.2.2.2.2.2.2.2.2.2.1
theorem MM.r41 (h : MM σ np nr W H ru pg rd nl F lw w S jl acts pw) : gR σ 310 41 = some 329 := h.1.hm.1.2.2.2.2.2.2.2.2.2.2.2.2.2.2.2.2.2.2.2.2.1
theorem MM.rem (h : MM σ np nr W H ru pg rd nl F lw w S jl acts pw) (hS : S ≤ 100) : ∃ σ', fX10_remember 310 σ = some σ' ∧ Sm sU σ σ' ∧ ME σ' np nr W H ru pg rd nl F lw ∧ MW σ' 323 w ∧ MLg σ' 323 (min S 60) (mlg S 0 jl) ∧ ∀ a b c d, MP σ' (min 40 (acts + 1)) (sPw w pw) (min 100 (S + 1)) (sJ jl a b c d) := by
  obtain ⟨τ, k1, k2, k3⟩ := m_remember h.r41 h.r33 h.2.2.2 h.2.1 h.2.2.1 hS
  refine ⟨τ, k1, k2, h.1.sm k2 (fun c k hc => ?_), h.2.1.sm k2 (fun k => rfl), h.2.2.1.sm k2 (fun k => rfl), k3⟩
  unfold coreM coreH at hc; unfold sU
  simp only [Bool.or_eq_true, Bool.and_eq_true, beq_iff_eq] at hc
  simp only [Bool.or_eq_false_iff, Bool.and_eq_false_imp, beq_iff_eq, beq_eq_false_iff_ne, ne_eq]
  omega
/-- a row logged behind what was remembered -/
theorem MM.fin {σ1 σ2 : Mm} {T : Nat → Nat → Bool} {w' : Nat → Int32} {a b c d : Int32} (hS : S ≤ 100) (hP : ∀ a b c d, MP σ1 (min 40 (acts + 1)) (sPw w pw) (min 100 (S + 1)) (sJ jl a b c d)) (hE : ME σ2 np nr W H ru pg rd nl F lw) (hm : MW σ2 323 w') (hg : MLg σ2 323 (sLogN (min S 60)) (sLog (min S 60) (mlg S 0 jl) a b c d)) (s : Sm T σ1 σ2) (h1 : ∀ k, T 329 k = false) (h2 : T 310 42 = false) : MM σ2 np nr W H ru pg rd nl F lw w' (min 100 (S + 1)) (sJ jl a b c d) (min 40 (acts + 1)) (sPw w pw) := by
  obtain ⟨l1, l2⟩ := log_next (S := S) (jl := jl) (a := a) (b := b) (c := c) (d := d) hS
  refine ⟨hE, hm, ?_, (hP a b c d).sm s h1 h2⟩
  rw [l1] at hg
  exact hg.ex (fun i j hi => l2 i j hi)
theorem M_read (h : MM σ np nr W H ru pg rd nl F lw w S jl acts pw) (g : HB np nr W H ru pg rd) (hS : S ≤ 100) (hB : WU D w) (hD : D < 2147483648) {r p : Nat} (hr : r < nr) (hp : p < np) : ∃ σ1 σ2, fX10_remember 310 σ = some σ1 ∧ gR σ1 310 33 = some 323 ∧ fX10_reads 310 323 (nI r) (nI p) σ1 = some (sReadL lw np nr ru pg rd w r p, σ2) ∧ Sm sAm σ σ2 ∧ MM σ2 np nr W H ru pg rd nl F lw (sRead lw np nr ru pg rd w r p) (min 100 (S + 1)) (sJ jl 0 (nI r) (nI p) (sReadL lw np nr ru pg rd w r p)) (min 40 (acts + 1)) (sPw w pw) := by
  obtain ⟨τ, k1, k2, k3, k4, k5, k6⟩ := h.rem hS
  obtain ⟨τ2, j1, j2, j3, j4, j5⟩ := m_reads g k3 (Or.inl rfl) k4 k5 hB hD hr hp
  exact ⟨τ, τ2, k1, by rw [k2.2.2 _ _ (by omega)]; exact h.r33, j1, (k2.mono (fun c k hc => (Bool.or_eq_false_iff.mp hc).2)).tr (j2.mono (fun c k hc => (Bool.or_eq_false_iff.mp hc).1)), MM.fin hS k6 j3 j4 j5 j2 (fun k => rfl) rfl⟩
theorem M_recut (h : MM σ np nr W H ru pg rd nl F lw w S jl acts pw) (g : HB np nr W H ru pg rd) (hS : S ≤ 100) {r p : Nat} (hr : r < nr) (hp : p < np) : ∃ σ1 σ2, fX10_remember 310 σ = some σ1 ∧ gR σ1 310 33 = some 323 ∧ fX10_recuts 310 323 (nI r) (nI p) σ1 = some σ2 ∧ Sm sAm σ σ2 ∧ MM σ2 np nr W H ru pg rd nl F lw (sRecut pg w r p) (min 100 (S + 1)) (sJ jl 1 (nI r) (nI p) 0) (min 40 (acts + 1)) (sPw w pw) := by
  obtain ⟨τ, k1, k2, k3, k4, k5, k6⟩ := h.rem hS
  obtain ⟨τ2, j1, j2, j4, j5⟩ := m_recuts g k3 (Or.inl rfl) k4 k5 hr hp
  exact ⟨τ, τ2, k1, by rw [k2.2.2 _ _ (by omega)]; exact h.r33, j1, (k2.mono (fun c k hc => (Bool.or_eq_false_iff.mp hc).2)).tr (j2.mono (fun c k hc => sM_Q (Bool.or_eq_false_iff.mp hc).1)), MM.fin hS k6 (k3.sm j2 (sM_core (by omega))) j4 j5 j2 (fun k => rfl) rfl⟩
theorem M_go (h : MM σ np nr W H ru pg rd nl F lw w S jl acts pw) (hS : S ≤ 100) {r : Nat} (hr : r < 6) (c : Int32) : ∃ σ1 σ2, fX10_remember 310 σ = some σ1 ∧ gR σ1 310 33 = some 323 ∧ ME σ1 np nr W H ru pg rd nl F lw ∧ MW σ1 323 w ∧ fX10_goes 323 (nI r) c σ1 = some σ2 ∧ Sm sAm σ σ2 ∧ MM σ2 np nr W H ru pg rd nl F lw (sGo w r c) (min 100 (S + 1)) (sJ jl 2 (nI r) c 0) (min 40 (acts + 1)) (sPw w pw) := by
  obtain ⟨τ, k1, k2, k3, k4, k5, k6⟩ := h.rem hS
  obtain ⟨τ2, j1, j2, j4, j5⟩ := m_goes (Or.inl rfl) k4 k5 hr c
  exact ⟨τ, τ2, k1, by rw [k2.2.2 _ _ (by omega)]; exact h.r33, k3, k4, j1, (k2.mono (fun c k hc => (Bool.or_eq_false_iff.mp hc).2)).tr (j2.mono (fun c k hc => sM_Q (Bool.or_eq_false_iff.mp hc).1)), MM.fin hS k6 (k3.sm j2 (sM_core (by omega))) j4 j5 j2 (fun k => rfl) rfl⟩
theorem M_night (h : MM σ np nr W H ru pg rd nl F lw w S jl acts pw) (g : HB np nr W H ru pg rd) (hS : S ≤ 100) (hB : WU D w) (hZ : WZ np nr w) : ∃ σ1 σ2, fX10_remember 310 σ = some σ1 ∧ gR σ1 310 33 = some 323 ∧ fX10_goNight 310 323 σ1 = some σ2 ∧ Sm sAm σ σ2 ∧ MM σ2 np nr W H ru pg rd nl F lw (sNight ru np w) (min 100 (S + 1)) (sJ jl 4 (-1) (-1) (sNightL ru np w)) (min 40 (acts + 1)) (sPw w pw) := by
  obtain ⟨τ, k1, k2, k3, k4, k5, k6⟩ := h.rem hS
  obtain ⟨τ2, j1, j2, j4, j5⟩ := m_goNight g k3 (Or.inl rfl) k4 k5 hB hZ
  exact ⟨τ, τ2, k1, by rw [k2.2.2 _ _ (by omega)]; exact h.r33, j1, (k2.mono (fun c k hc => (Bool.or_eq_false_iff.mp hc).2)).tr (j2.mono (fun c k hc => sM_Q (Bool.or_eq_false_iff.mp hc).1)), MM.fin hS k6 (k3.sm j2 (sM_core (by omega))) j4 j5 j2 (fun k => rfl) rfl⟩
end MMs
/-! the class and the model: D days at most -/
def CM (np nr W H : Nat) (ru pg rd : Nat → Int32) (nl : Nat) (F : Nat → LF) (lw : Option LF) (D : Nat) (w : Nat → Int32) (S : Nat) (jl : Nat → Nat → Int32) (acts : Nat) (pw : Nat → Nat → Int32) (σ : Mm) : Prop :=
  CC σ np nr W H ru pg rd lw w S jl acts pw ∧ MM σ np nr W H ru pg rd nl F lw w S jl acts pw ∧ WU D w ∧ WZ np nr w ∧ (∀ u, u < acts → WU D (pw u) ∧ WZ np nr (pw u)) ∧ acts ≤ S
section CMs
variable {σ : Mm} {D np nr W H S acts nl : Nat} {ru pg rd w : Nat → Int32} {F : Nat → LF} {lw : Option LF} {jl pw : Nat → Nat → Int32}
theorem CC.ag {T : Nat → Nat → Bool} {σ' : Mm} (h : CC σ np nr W H ru pg rd lw w S jl acts pw) (s : Sm T σ σ') (hs : ∀ c k, c < 310 → (c < 12 ∨ 12 < c) → ¬ (48 ≤ c ∧ c < 68 ∧ (c - 48) % 4 = 3) → ¬ (13 ≤ c ∧ c ≤ 46) → ¬ (94 ≤ c ∧ c ≤ 98) → c < 303 → T c k = false) : CC σ' np nr W H ru pg rd lw w S jl acts pw := by
  obtain ⟨hF, g, hH, hL, h5, hP, hJ⟩ := h
  refine ⟨hF.sm s, g, hH.sm s (by omega) (fun j k hj => hs _ _ (by omega) (by omega) (by omega) (by omega) (by omega) (by omega)), hL.sm s (fun j k hj => ⟨hs _ _ (by omega) (by omega) (by omega) (by omega) (by omega) (by omega), hs _ _ (by omega) (by omega) (by omega) (by omega) (by omega) (by omega), hs _ _ (by omega) (by omega) (by omega) (by omega) (by omega) (by omega)⟩), h5.sm s (fun j k hj => hs _ _ (by omega) (by omega) (by omega) (by omega) (by omega) (by omega)), hP.sm s (fun c k hc => ?_), hJ.sm s (fun k => ⟨hs _ _ (by omega) (by omega) (by omega) (by omega) (by omega) (by omega), hs _ _ (by omega) (by omega) (by omega) (by omega) (by omega) (by omega)⟩)⟩
  unfold sP at hc
  simp only [Bool.or_eq_true, Bool.and_eq_true, beq_iff_eq, decide_eq_true_eq] at hc
  exact hs _ _ (by omega) (by omega) (by omega) (by omega) (by omega) (by omega)
theorem sAm_hi {c k : Nat} (h : c < 310) : sAm c k = false := by
  unfold sAm sQ sK sG sU
  simp only [Bool.or_eq_false_iff, Bool.and_eq_false_imp, beq_iff_eq, beq_eq_false_iff_ne, ne_eq]
  omega
theorem sAc_hi {c k : Nat} (h : 310 ≤ c) : sAc c k = false := sAc_no (by omega) (by omega)
theorem kMM_hi {c k : Nat} (h : kMM c k = true) : 310 ≤ c := by
  unfold kMM coreH at h
  simp only [Bool.or_eq_true, Bool.and_eq_true, beq_iff_eq] at h
  omega
theorem kMM_ne {c k : Nat} (h : kMM c k = true) : c ≠ 334 := by
  unfold kMM coreH at h
  simp only [Bool.or_eq_true, Bool.and_eq_true, beq_iff_eq] at h
  omega
def sAA (c k : Nat) : Bool := sAc c k || sAm c k || sT c k || (c == 310 && k == 43) || (c == 0 && k == 18)
theorem sAA_c {c k : Nat} (h : sAA c k = false) : sAc c k = false := by
  unfold sAA at h; simp only [Bool.or_eq_false_iff] at h; exact h.1.1.1.1
theorem sAA_m {c k : Nat} (h : sAA c k = false) : sAm c k = false := by
  unfold sAA at h; simp only [Bool.or_eq_false_iff] at h; exact h.1.1.1.2
theorem sAA_T {c k : Nat} (h : sAA c k = false) : sT c k = false := by
  unfold sAA at h; simp only [Bool.or_eq_false_iff] at h; exact h.1.1.2
theorem CM.act {σ1 σ2 : Mm} {T : Nat → Nat → Bool} {w' : Nat → Int32} {D' : Nat} {jl' : Nat → Nat → Int32} (h : CM np nr W H ru pg rd nl F lw D w S jl acts pw σ) (hC : CC σ1 np nr W H ru pg rd lw w' (min 100 (S + 1)) jl' (min 40 (acts + 1)) (sPw w pw)) (s2 : Sm T σ1 σ2) (hT : ∀ c k, c < 310 → T c k = false) (hM : MM σ2 np nr W H ru pg rd nl F lw w' (min 100 (S + 1)) jl' (min 40 (acts + 1)) (sPw w pw)) (hU : WU D' w') (hZ : WZ np nr w') (hD : D ≤ D') : CM np nr W H ru pg rd nl F lw D' w' (min 100 (S + 1)) jl' (min 40 (acts + 1)) (sPw w pw) σ2 := by
  obtain ⟨h1, h2, h3, h4, h5, h6⟩ := h
  refine ⟨hC.ag s2 (fun c k hc _ _ _ _ _ => hT c k hc), hM, hU, hZ, fun u hu => ?_, by omega⟩
  unfold sPw
  by_cases q : u = 0
  · rw [if_pos q]; exact ⟨h3.mono hD, h4⟩
  · rw [if_neg q]
    have := h5 (u - 1) (by omega)
    exact ⟨this.1.mono hD, this.2⟩
theorem CM.S100 (h : CM np nr W H ru pg rd nl F lw D w S jl acts pw σ) : S ≤ 100 := h.1.2.2.2.2.2.2.1
theorem CM.g (h : CM np nr W H ru pg rd nl F lw D w S jl acts pw σ) : HB np nr W H ru pg rd := h.1.2.1
theorem CM.rf (h : CM np nr W H ru pg rd nl F lw D w S jl acts pw σ) : RF σ := h.1.1
theorem CM.hc (h : CM np nr W H ru pg rd nl F lw D w S jl acts pw σ) : HC σ 3 np nr ru pg rd := h.1.2.2.1
theorem CM.hl (h : CM np nr W H ru pg rd nl F lw D w S jl acts pw σ) : LW σ lw := h.1.2.2.2.1
theorem CM.sc (h : CM np nr W H ru pg rd nl F lw D w S jl acts pw σ) : SC σ 89 w := h.1.2.2.2.2.1
theorem CM.pc (h : CM np nr W H ru pg rd nl F lw D w S jl acts pw σ) : PC σ acts pw := h.1.2.2.2.2.2.1
theorem CM.jc (h : CM np nr W H ru pg rd nl F lw D w S jl acts pw σ) : JC σ 301 S jl := h.1.2.2.2.2.2.2
theorem CM.mm (h : CM np nr W H ru pg rd nl F lw D w S jl acts pw σ) : MM σ np nr W H ru pg rd nl F lw w S jl acts pw := h.2.1
theorem CM.wu (h : CM np nr W H ru pg rd nl F lw D w S jl acts pw σ) : WU D w := h.2.2.1
theorem CM.wz (h : CM np nr W H ru pg rd nl F lw D w S jl acts pw σ) : WZ np nr w := h.2.2.2.1
theorem CM.thr (h : CM np nr W H ru pg rd nl F lw D w S jl acts pw σ) : CM np nr W H ru pg rd nl F lw D w S jl acts pw (sI σ 310 0 0) :=
  ⟨h.1.ag (Sm.rf.sI (S := sT) rfl) (fun c k hc _ _ _ _ _ => by unfold sT; simp; omega), h.2.1.thr, h.2.2⟩
theorem CM.mc {σ1 : Mm} (h : CM np nr W H ru pg rd nl F lw D w S jl acts pw σ) (s : Sm sAc σ σ1) : MM (sI σ1 310 0 0) np nr W H ru pg rd nl F lw w S jl acts pw :=
  (h.mm.sm s (fun c k hc => sAc_hi (kMM_hi hc)) (fun k => ⟨sAc_hi (by omega), sAc_hi (by omega)⟩)).thr
/-- nothing done -/
theorem CM.same (h : CM np nr W H ru pg rd nl F lw D w S jl acts pw σ) : ∃ D' w' S' jl' acts' pw', CM np nr W H ru pg rd nl F lw D' w' S' jl' acts' pw' (sI σ 310 0 0) ∧ Sm sAA σ (sI σ 310 0 0) ∧ D' ≤ D + 60 ∧ acts' ≤ 40 :=
  ⟨D, w, S, jl, acts, pw, h.thr, Sm.rf.sI rfl, by omega, h.pc.1⟩
theorem W_read (h : CM np nr W H ru pg rd nl F lw D w S jl acts pw σ) (hD : D < 2147483000) (x y : Int32) : ∃ v σ' σ'', fX9_read 0 x y σ = some (v, σ') ∧ fX10_read 310 x y σ' = some (v, σ'') ∧ ∃ D' w' S' jl' acts' pw', CM np nr W H ru pg rd nl F lw D' w' S' jl' acts' pw' σ'' ∧ Sm sAA σ σ'' ∧ D' ≤ D + 60 ∧ acts' ≤ 40 := by
  have g := h.g
  have g1 := g.1
  have g2 := g.2.1
  unfold fX9_read fX10_read
  simp only [h.rf.win, h.rf.now, Option.bind_some]
  by_cases hx : ∃ r, r < nr ∧ x = nI r
  · obtain ⟨r, hr, rfl⟩ := hx
    by_cases hy : ∃ p, p < np ∧ y = nI p
    · obtain ⟨p, hp, rfl⟩ := hy
      rw [c_may_read g h.hc h.rf.wr h.rf.sr89 h.sc hr hp, Option.bind_some]
      by_cases q : sMayR ru pg rd w r p = 0
      · rw [if_pos q]
        refine ⟨_, _, _, rfl, ?_, h.same⟩
        rw [h.mm.r33, Option.bind_some, m_canRead g h.mm.thr.1.hm (by decide +kernel) h.mm.thr.2.1 hr hp, Option.bind_some, if_pos q]
      · obtain ⟨τ, k1, k2, k3⟩ := C_read h.1 hr hp
        have hM := h.mc k2
        obtain ⟨τ1, τ2, j1, j2, j3, j4, j5⟩ := M_read hM g h.S100 h.wu (by omega) hr hp
        have c89 : SR τ 89 := k3.1.sr89
        have r33 : gR τ 310 33 = some 323 := hM.r33
        rw [if_neg q, h.rf.hall, Option.bind_some, c_hasPage g h.hc hp, Option.bind_some, if_neg z1, k1, Option.bind_some, k3.1.now, Option.bind_some, c89.2.1, Option.bind_some, c89.2.2.2.2.2.1, if_pos (ixT (by omega) (by omega)), clT (by omega), k3.2.2.2.2.1.2.1 p (by omega)]
        refine ⟨_, _, τ2, rfl, ?_, ?_⟩
        · rw [r33, Option.bind_some, m_canRead g hM.1.hm (by decide +kernel) hM.2.1 hr hp, Option.bind_some, if_neg q, j1, Option.bind_some, j2, Option.bind_some, j3, bnd2_some, j5.r33, Option.bind_some, i2p1, show ln 323 = 351 by decide +kernel, if_pos (ixT (by omega) (by omega)), clT (by omega), j5.2.1 (2 * p + 1) (by omega)]
        · refine ⟨D, _, _, _, _, _, h.act (k3.ag (Sm.rf.sI (S := sT) rfl) (fun c k hc _ _ _ _ _ => by unfold sT; simp; omega)) j4 (fun c k hc => sAm_hi hc) j5 (h.wu.read g hr hp) (h.wz.read g hr hp) (Nat.le_refl _), ?_, by omega, by omega⟩
          exact ((k2.mono (fun c k hc => sAA_c hc)).sI rfl).tr (j4.mono (fun c k hc => sAA_m hc))
    · rw [c_may_read_out g h.hc h.rf.wr h.sc hr hy, Option.bind_some, if_pos rfl]
      refine ⟨_, _, _, rfl, ?_, h.same⟩
      rw [h.mm.r33, Option.bind_some, m_canRead_out g h.mm.thr.1.hm (by decide +kernel) h.mm.thr.2.1 (Or.inr hy), Option.bind_some, if_pos rfl]
  · rw [c_may_none g h.hc h.rf.wr (by decide) (by decide) hx, Option.bind_some, if_pos rfl]
    refine ⟨_, _, _, rfl, ?_, h.same⟩
    rw [h.mm.r33, Option.bind_some, m_canRead_out g h.mm.thr.1.hm (by decide +kernel) h.mm.thr.2.1 (Or.inl hx), Option.bind_some, if_pos rfl]
end CMs
