/-! what stays -/
def Sm (S : Nat → Nat → Bool) (σ σ' : Mm) : Prop := (∀ c k, S c k = false → gI σ' c k = gI σ c k) ∧ (∀ c k, S c k = false → gL σ' c k = gL σ c k) ∧ ∀ c k, ¬ (c = 310 ∧ k = 5) → gR σ' c k = gR σ c k
theorem Sm.rf {S : Nat → Nat → Bool} {σ : Mm} : Sm S σ σ := ⟨fun _ _ _ => rfl, fun _ _ _ => rfl, fun _ _ _ => rfl⟩
theorem Sm.tr {S : Nat → Nat → Bool} {a b c : Mm} (h : Sm S a b) (h2 : Sm S b c) : Sm S a c := ⟨fun x k hx => (h2.1 x k hx).trans (h.1 x k hx), fun x k hx => (h2.2.1 x k hx).trans (h.2.1 x k hx), fun x k hx => (h2.2.2 x k hx).trans (h.2.2 x k hx)⟩
theorem Sm.mono {S S' : Nat → Nat → Bool} {a b : Mm} (h : Sm S a b) (hs : ∀ c k, S' c k = false → S c k = false) : Sm S' a b := ⟨fun x k hx => h.1 x k (hs x k hx), fun x k hx => h.2.1 x k (hs x k hx), h.2.2⟩
theorem Sm.sI {S : Nat → Nat → Bool} {a b : Mm} {c k : Nat} {v : Int32} (h : Sm S a b) (hs : S c k = true) : Sm S a (sI b c k v) := by
  refine ⟨fun x j hx => ?_, h.2.1, h.2.2⟩
  rw [gI_sI, if_neg (by rintro ⟨rfl, rfl⟩; rw [hs] at hx; cases hx)]
  exact h.1 x j hx
theorem Sm.sL {S : Nat → Nat → Bool} {a b : Mm} {c k : Nat} {v : Int64} (h : Sm S a b) (hs : S c k = true) : Sm S a (sL b c k v) := by
  refine ⟨h.1, fun x j hx => ?_, h.2.2⟩
  rw [gL_sL, if_neg (by rintro ⟨rfl, rfl⟩; rw [hs] at hx; cases hx)]
  exact h.2.1 x j hx
/-- the class's scratch: the letters, the laws' stacks -/
def scr (c _k : Nat) : Bool := c == 12 || (decide (48 ≤ c) && (decide (c < 68) && (c - 48) % 4 == 3))
theorem HC.sm {S : Nat → Nat → Bool} {σ σ' : Mm} {b np nr : Nat} {ru pg rd : Nat → Int32} (h : HC σ b np nr ru pg rd) (s : Sm S σ σ') (hb : b + 3 < 310) (hs : ∀ j k, j ≤ 3 → S (b + j) k = false) : HC σ' b np nr ru pg rd := by
  obtain ⟨h1, h2, h3, l1, l2, l3, e1, e2, d1, d2, d3⟩ := h
  refine ⟨by rw [s.2.2 _ _ (by omega)]; exact h1, by rw [s.2.2 _ _ (by omega)]; exact h2, by rw [s.2.2 _ _ (by omega)]; exact h3, l1, l2, l3, by rw [s.1 b 4 (hs 0 4 (by omega))]; exact e1, by rw [s.1 b 5 (hs 0 5 (by omega))]; exact e2, fun k hk => by rw [s.1 _ _ (hs 1 k (by omega))]; exact d1 k hk, fun k hk => by rw [s.1 _ _ (hs 2 k (by omega))]; exact d2 k hk, fun k hk => by rw [s.1 _ _ (hs 3 k (by omega))]; exact d3 k hk⟩
theorem SR.sm {S : Nat → Nat → Bool} {σ σ' : Mm} {b : Nat} (h : SR σ b) (s : Sm S σ σ') (hb : b < 310) : SR σ' b := by
  obtain ⟨h1, h2, h3, h4, h5⟩ := h
  exact ⟨by rw [s.2.2 _ _ (by omega)]; exact h1, by rw [s.2.2 _ _ (by omega)]; exact h2, by rw [s.2.2 _ _ (by omega)]; exact h3, by rw [s.2.2 _ _ (by omega)]; exact h4, h5⟩
theorem SC.sm {S : Nat → Nat → Bool} {σ σ' : Mm} {b : Nat} {w : Nat → Int32} (h : SC σ b w) (s : Sm S σ σ') (hs : ∀ j k, j ≤ 4 → S (b + j) k = false) : SC σ' b w := by
  obtain ⟨h1, h2, h3, h4, h5, h6, D, hD, e, h7⟩ := h
  refine ⟨fun p hp => by rw [s.1 _ _ (hs 1 p (by omega))]; exact h1 p hp, fun p hp => by rw [s.1 _ _ (hs 2 p (by omega))]; exact h2 p hp, fun p hp => by rw [s.1 _ _ (hs 3 p (by omega))]; exact h3 p hp, fun r p hr hp => by rw [s.1 _ _ (hs 4 _ (by omega))]; exact h4 r p hr hp, by rw [s.1 b 5 (hs 0 _ (by omega))]; exact h5, by rw [s.1 b 6 (hs 0 _ (by omega))]; exact h6, D, hD, by rw [s.1 b 4 (hs 0 _ (by omega))]; exact e, h7⟩
/-! winter: the object 11, its hall 3 -/
def WR (σ : Mm) : Prop := gR σ 11 0 = some 3 ∧ gR σ 11 1 = some 12
theorem ln12 : ln 12 = 6 := by decide +kernel
theorem WR.sm {S : Nat → Nat → Bool} {σ σ' : Mm} (h : WR σ) (s : Sm S σ σ') : WR σ' := ⟨by rw [s.2.2 _ _ (by omega)]; exact h.1, by rw [s.2.2 _ _ (by omega)]; exact h.2⟩
/-- a law's worth, as the class works it out -/
def LawOK (σ : Mm) (l : Nat) (f : Int32 → Int32 → Int32 → Int32 → Int32 → Int32 → Int32) : Prop :=
  (∃ j, j < 5 ∧ l = 48 + 4 * j) ∧ ∀ σ', (∀ k, gI σ' (l + 1) k = gI σ (l + 1) k) → (∀ k, gI σ' (l + 2) k = gI σ (l + 2) k) → gI σ' l 4 = gI σ l 4 → (∀ k, gR σ' l k = gR σ l k) → ∃ σ'', fX3_worth l 12 σ' = some (f (gI σ' 12 0) (gI σ' 12 1) (gI σ' 12 2) (gI σ' 12 3) (gI σ' 12 4) (gI σ' 12 5), σ'') ∧ Sm scr σ' σ''
def LW (σ : Mm) (lw : Option (Int32 → Int32 → Int32 → Int32 → Int32 → Int32 → Int32)) : Prop := match lw with
  | none => gR σ 11 2 = none
  | some f => ∃ l, gR σ 11 2 = some l ∧ LawOK σ l f
def clampN (x : Int32) : Int32 := maxI 0 (minI 9 x)
def sMelt (lw : Option (Int32 → Int32 → Int32 → Int32 → Int32 → Int32 → Int32)) (ru pg rd w : Nat → Int32) (r p : Nat) (c n : Int32) : Int32 :=
  if 1 < sAp ru c (pg (4 * p)) then 0 else clampN (match lw with
    | none => rd (4 * r + 1) - w 108 / 20 + 1 - sAp ru c (pg (4 * p))
    | some f => f (rd (4 * r + 1)) (w 108) (w (2 * p)) (sAp ru c (pg (4 * p))) n (w 109))
theorem LW.sm {σ σ' : Mm} {lw : Option (Int32 → Int32 → Int32 → Int32 → Int32 → Int32 → Int32)} {S : Nat → Nat → Bool} (h : LW σ lw) (s : Sm S σ σ') (hs : ∀ j k, j < 5 → S (48 + 4 * j) k = false ∧ S (49 + 4 * j) k = false ∧ S (50 + 4 * j) k = false) : LW σ' lw := by
  cases lw with
  | none => show gR σ' 11 2 = none; rw [s.2.2 _ _ (by omega)]; exact h
  | some f =>
    obtain ⟨l, h1, ⟨j, hj, rfl⟩, h2⟩ := h
    refine ⟨_, by rw [s.2.2 _ _ (by omega)]; exact h1, ⟨j, hj, rfl⟩, fun σ2 e1 e2 e3 e4 => h2 σ2 (fun k => (e1 k).trans (s.1 _ _ (by rw [show 48 + 4 * j + 1 = 49 + 4 * j from by omega]; exact (hs j k hj).2.1))) (fun k => (e2 k).trans (s.1 _ _ (by rw [show 48 + 4 * j + 2 = 50 + 4 * j from by omega]; exact (hs j k hj).2.2))) (e3.trans (s.1 _ _ (hs j 4 hj).1)) (fun k => (e4 k).trans (s.2.2 _ _ (by omega)))⟩
section Winter
variable {σ : Mm} {b np nr W H : Nat} {ru pg rd w : Nat → Int32} {lw : Option (Int32 → Int32 → Int32 → Int32 → Int32 → Int32 → Int32)}
def sOth (nr : Nat) (w : Nat → Int32) (r : Nat) (c : Int32) : Int32 := fo (fun k acc => if k = r then acc else if w (24 + 14 * k) = c then acc + 1 else acc) 0 nr
theorem c_others (g : HB np nr W H ru pg rd) (h : HC σ 3 np nr ru pg rd) (hw : WR σ) (hR : SR σ b) (hs : SC σ b w) {r : Nat} (hr : r < 6) (c : Int32) : fX8_othersIn 11 b (nI r) c σ = some (sOth nr w r c) := by
  have hnr := g.2.1
  have e5 : gI σ 3 5 = nI nr := h.2.2.2.2.2.2.2.1
  unfold fX8_othersIn fX8_othersIn_w6
  have key : wh (fun a : Int32 × Int32 => fX8_othersIn_l6 11 b (nI r) c a.1 a.2 σ) BIG (0, 0) = some (sOth nr w r c) := by
    refine wh_run (fun i => (fo (fun k acc => if k = r then acc else if w (24 + 14 * k) = c then acc + 1 else acc) 0 i, nI i)) nr rfl (BIG_lt (by omega)) (fun i hi => ?_) ?_
    · unfold fX8_othersIn_l6 fX8_othersIn_b38
      rw [fo_succ]
      have e6 : ¬ nI nr ≤ nI i := fun z => absurd ((leT (by omega) (by omega)).mp z) (by omega)
      by_cases q : i = r
      · subst q
        simp only [hw.1, e5, Option.bind_some, if_neg e6, if_true, nI_1]
      · have q' : ¬ nI i = nI r := fun z => q ((eqT (by omega) (by omega)).mp z)
        have hix : ixB (nI i) (ln (b + 3)) = true := by rw [hR.2.2.2.2.2.2.1]; exact ixT (by omega) (by omega)
        simp only [hw.1, e5, Option.bind_some, if_neg e6, if_neg q', if_neg q, hR.2.2.1, hix, if_true, nI_1, clT (show i < 2147483648 by omega), hs.2.2.1 i (by omega)]
        split <;> rfl
    · unfold fX8_othersIn_l6
      simp only [hw.1, e5, Option.bind_some, if_pos (Int32.le_refl (nI nr))]
      rfl
  rw [key]
  rfl
theorem c_meltBy (g : HB np nr W H ru pg rd) (h : HC σ 3 np nr ru pg rd) (hw : WR σ) (hR : SR σ b) (hs : SC σ b w) (hl : LW σ lw) (hb : (∀ j k, j ≤ 4 → scr (b + j) k = false)) {r p : Nat} (hr : r < nr) (hp : p < np) (c n : Int32) : ∃ σ', fX8_meltBy 11 b (nI r) (nI p) c n σ = some (sMelt lw ru pg rd w r p c n, σ') ∧ Sm scr σ σ' := by
  have hnp : 0 < np := by omega
  have g1 := g.1
  have g2 := g.2.1
  unfold fX8_meltBy sMelt
  simp only [hw.1, Option.bind_some, c_pageCell g h hp, c_steps g h hnp, c_hasPage g h hp, c_breath g h hr, if_neg (show ¬ (1 : Int32) = 0 by decide)]
  by_cases q : 1 < sAp ru c (pg (4 * p))
  · simp only [if_pos q]
    exact ⟨σ, rfl, Sm.rf⟩
  · simp only [if_neg q]
    cases lw with
    | none =>
      have h2 : gR σ 11 2 = none := hl
      simp only [h2]
      exact ⟨σ, by unfold fX8_meltBy_b143; rw [hs.2.2.2.2.1]; rfl, Sm.rf⟩
    | some f =>
      obtain ⟨l, h2, ⟨j, hj, rfl⟩, h3⟩ := hl
      simp only [h2]
      have i3 : ixB (nI p) (ln (b + 1)) = true := by rw [hR.2.2.2.2.1]; exact ixT (by omega) (by omega)
      have z0 : ixB 0 6 = true := by decide
      have z1 : ixB 1 6 = true := by decide
      have z2 : ixB 2 6 = true := by decide
      have z3 : ixB 3 6 = true := by decide
      have z4 : ixB 4 6 = true := by decide
      have z5 : ixB 5 6 = true := by decide
      have b12 : ∀ j, j ≤ 4 → b + j ≠ 12 := fun j hj e => by have := hb j 0 hj; rw [e] at this; cases this
      have n0 : ¬ b = 12 := fun e => b12 0 (by omega) (by omega)
      have n1 : ¬ b + 1 = 12 := b12 1 (by omega)
      simp only [hw.2, Option.bind_some, ln12, z0, z1, z2, z3, z4, z5, if_true, hR.1, i3]
      simp only [gI_sI, n0, n1, false_and, if_false, hs.2.2.2.2.1, hs.2.2.2.2.2.1, clT (show p < 2147483648 by omega), hs.1 p (by omega)]
      generalize hτ : (sI _ 12 (Int32.toNatClampNeg 5) (w 109)) = τ
      obtain ⟨τ2, k1, k2⟩ := h3 τ (fun k => by rw [← hτ]; simp only [gI_sI, show ¬ 48 + 4 * j + 1 = 12 by omega, false_and, if_false]) (fun k => by rw [← hτ]; simp only [gI_sI, show ¬ 48 + 4 * j + 2 = 12 by omega, false_and, if_false]) (by rw [← hτ]; simp only [gI_sI, show ¬ 48 + 4 * j = 12 by omega, false_and, if_false]) (fun k => by rw [← hτ]; rfl)
      rw [k1]
      have s1 : Sm scr σ τ := by rw [← hτ]; exact ((((((Sm.rf).sI rfl).sI rfl).sI rfl).sI rfl).sI rfl).sI rfl
      refine ⟨τ2, ?_, s1.tr k2⟩
      rw [bnd2_some]
      unfold fX8_meltBy_b143 clampN
      have t0 : Int32.toNatClampNeg 0 = 0 := by decide
      have t1 : Int32.toNatClampNeg 1 = 1 := by decide
      have t2 : Int32.toNatClampNeg 2 = 2 := by decide
      have t3 : Int32.toNatClampNeg 3 = 3 := by decide
      have t4 : Int32.toNatClampNeg 4 = 4 := by decide
      have t5 : Int32.toNatClampNeg 5 = 5 := by decide
      rw [← hτ]
      simp [gI_sI, t0, t1, t2, t3, t4, t5]
end Winter
