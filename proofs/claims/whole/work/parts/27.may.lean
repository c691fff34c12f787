/-! what may be done, on the class's side -/
section May
variable {σ : Mm} {b np nr W H : Nat} {ru pg rd w : Nat → Int32}
def sNear (ru rd w : Nat → Int32) (r : Nat) (c : Int32) : Int32 := if rd (4 * r + 2) < sAp ru (w (24 + 14 * r)) c then 0 else 1
def sMayR (ru pg rd w : Nat → Int32) (r p : Nat) : Int32 := if w (25 + 14 * r) = 0 then if w (2 * p) ≤ 0 then 0 else sNear ru rd w r (pg (4 * p)) else 0
def sMayC (ru pg rd w : Nat → Int32) (r p : Nat) : Int32 := if w (25 + 14 * r) = 0 then if w (26 + 14 * r + p) = 0 then 0 else sNear ru rd w r (pg (4 * p)) else 0
def sMayG (ru rd w : Nat → Int32) (r : Nat) (c : Int32) : Int32 := if w (25 + 14 * r) = 0 then if w (24 + 14 * r) = c then 0 else sNear ru rd w r c else 0
def sMayT (w : Nat → Int32) (r o : Nat) : Int32 := if w (25 + 14 * r) = 0 then if o = r then 0 else if w (24 + 14 * o) = w (24 + 14 * r) then 1 else 0 else 0
theorem z1 : ¬ (1 : Int32) = 0 := by decide
theorem c_may_none (g : HB np nr W H ru pg rd) (h : HC σ 3 np nr ru pg rd) (hw : WR σ) {k x y : Int32} (h4 : ¬ k = 4) (h5 : ¬ k = 5) (hx : ¬ ∃ r, r < nr ∧ x = nI r) : fX8_may 11 b k x y σ = some 0 := by
  unfold fX8_may
  simp only [if_neg h4, if_neg h5, hw.1, Option.bind_some, c_hasReader_out g h hx, if_true]
theorem c_may_read (g : HB np nr W H ru pg rd) (h : HC σ 3 np nr ru pg rd) (hw : WR σ) (hR : SR σ b) (hs : SC σ b w) {r p : Nat} (hr : r < nr) (hp : p < np) : fX8_may 11 b 0 (nI r) (nI p) σ = some (sMayR ru pg rd w r p) := by
  have g1 := g.1
  have g2 := g.2.1
  unfold fX8_may sMayR sNear
  simp only [if_neg (show ¬ (0 : Int32) = 4 by decide), if_neg (show ¬ (0 : Int32) = 5 by decide), hw.1, Option.bind_some, c_hasReader g h hr, if_neg z1, c_hasDone hs (show r < 6 by omega), if_true, c_hasPage g h hp, hR.1, hR.2.2.2.2.1, ixT (show p < 12 by omega) (show 12 ≤ 2147483648 by omega), clT (show p < 2147483648 by omega), hs.1 p (by omega), c_pageCell g h hp, c_reaches g h hw hR hs hr (by omega)]
  by_cases q1 : w (25 + 14 * r) = 0
  · simp only [if_pos q1]
    by_cases q2 : w (2 * p) ≤ 0
    · simp only [if_pos q2]
    · simp only [if_neg q2]
      split <;> rfl
  · simp only [if_neg q1]
theorem c_may_read_out (g : HB np nr W H ru pg rd) (h : HC σ 3 np nr ru pg rd) (hw : WR σ) (hs : SC σ b w) {r : Nat} {y : Int32} (hr : r < nr) (hy : ¬ ∃ p, p < np ∧ y = nI p) : fX8_may 11 b 0 (nI r) y σ = some 0 := by
  have g2 := g.2.1
  unfold fX8_may
  simp only [if_neg (show ¬ (0 : Int32) = 4 by decide), if_neg (show ¬ (0 : Int32) = 5 by decide), hw.1, Option.bind_some, c_hasReader g h hr, if_neg z1, c_hasDone hs (show r < 6 by omega), if_true, c_hasPage_out g h hy]
  split <;> rfl
theorem c_may_recut (g : HB np nr W H ru pg rd) (h : HC σ 3 np nr ru pg rd) (hw : WR σ) (hR : SR σ b) (hs : SC σ b w) {r p : Nat} (hr : r < nr) (hp : p < np) : fX8_may 11 b 1 (nI r) (nI p) σ = some (sMayC ru pg rd w r p) := by
  have g1 := g.1
  have g2 := g.2.1
  unfold fX8_may sMayC sNear
  simp only [if_neg (show ¬ (1 : Int32) = 4 by decide), if_neg (show ¬ (1 : Int32) = 5 by decide), hw.1, Option.bind_some, c_hasReader g h hr, if_neg z1, c_hasDone hs (show r < 6 by omega), if_true, c_hasPage g h hp, c_recall hR hs (show r < 6 by omega) (show p < 12 by omega), sub1_m1, c_pageCell g h hp, c_reaches g h hw hR hs hr (show 0 < np by omega)]
  by_cases q1 : w (25 + 14 * r) = 0
  · simp only [if_pos q1]
    by_cases q2 : w (26 + 14 * r + p) = 0
    · simp only [if_pos q2]
    · simp only [if_neg q2]
      split <;> rfl
  · simp only [if_neg q1]
theorem c_may_recut_out (g : HB np nr W H ru pg rd) (h : HC σ 3 np nr ru pg rd) (hw : WR σ) (hs : SC σ b w) {r : Nat} {y : Int32} (hr : r < nr) (hy : ¬ ∃ p, p < np ∧ y = nI p) : fX8_may 11 b 1 (nI r) y σ = some 0 := by
  have g2 := g.2.1
  unfold fX8_may
  simp only [if_neg (show ¬ (1 : Int32) = 4 by decide), if_neg (show ¬ (1 : Int32) = 5 by decide), hw.1, Option.bind_some, c_hasReader g h hr, if_neg z1, c_hasDone hs (show r < 6 by omega), if_true, c_hasPage_out g h hy]
  split <;> rfl
theorem c_may_go (g : HB np nr W H ru pg rd) (h : HC σ 3 np nr ru pg rd) (hw : WR σ) (hR : SR σ b) (hs : SC σ b w) {r c : Nat} (hr : r < nr) (hnp : 0 < np) (hc : c < W * H) : fX8_may 11 b 2 (nI r) (nI c) σ = some (sMayG ru rd w r (nI c)) := by
  have g2 := g.2.1
  unfold fX8_may sMayG sNear
  simp only [if_neg (show ¬ (2 : Int32) = 4 by decide), if_neg (show ¬ (2 : Int32) = 5 by decide), if_neg (show ¬ (2 : Int32) = 0 by decide), if_neg (show ¬ (2 : Int32) = 1 by decide), hw.1, Option.bind_some, c_hasReader g h hr, if_neg z1, c_hasDone hs (show r < 6 by omega), if_true, c_hasCell g h hc, hR.2.2.1, hR.2.2.2.2.2.2.1, ixT (show r < 6 by omega) (show 6 ≤ 2147483648 by omega), clT (show r < 2147483648 by omega), hs.2.2.1 r (by omega), c_reaches g h hw hR hs hr hnp]
  by_cases q1 : w (25 + 14 * r) = 0
  · simp only [if_pos q1]
    by_cases q2 : w (24 + 14 * r) = nI c
    · simp only [if_pos q2]
    · simp only [if_neg q2]
      split <;> rfl
  · simp only [if_neg q1]
theorem c_may_go_out (g : HB np nr W H ru pg rd) (h : HC σ 3 np nr ru pg rd) (hw : WR σ) (hs : SC σ b w) {r : Nat} {y : Int32} (hr : r < nr) (hy : ¬ ∃ c, c < W * H ∧ y = nI c) : fX8_may 11 b 2 (nI r) y σ = some 0 := by
  have g2 := g.2.1
  unfold fX8_may
  simp only [if_neg (show ¬ (2 : Int32) = 4 by decide), if_neg (show ¬ (2 : Int32) = 5 by decide), if_neg (show ¬ (2 : Int32) = 0 by decide), if_neg (show ¬ (2 : Int32) = 1 by decide), hw.1, Option.bind_some, c_hasReader g h hr, if_neg z1, c_hasDone hs (show r < 6 by omega), if_true, c_hasCell_out g h hy]
  split <;> rfl
theorem c_may_tell (g : HB np nr W H ru pg rd) (h : HC σ 3 np nr ru pg rd) (hw : WR σ) (hR : SR σ b) (hs : SC σ b w) {r o : Nat} (hr : r < nr) (ho : o < nr) : fX8_may 11 b 3 (nI r) (nI o) σ = some (sMayT w r o) := by
  have g2 := g.2.1
  unfold fX8_may sMayT
  simp only [if_neg (show ¬ (3 : Int32) = 4 by decide), if_neg (show ¬ (3 : Int32) = 5 by decide), if_neg (show ¬ (3 : Int32) = 0 by decide), if_neg (show ¬ (3 : Int32) = 1 by decide), if_neg (show ¬ (3 : Int32) = 2 by decide), hw.1, Option.bind_some, c_hasReader g h hr, c_hasReader g h ho, if_neg z1, c_hasDone hs (show r < 6 by omega), if_true, eqT (show o < 2147483648 by omega) (show r < 2147483648 by omega), hR.2.2.1, hR.2.2.2.2.2.2.1, ixT (show r < 6 by omega) (show 6 ≤ 2147483648 by omega), ixT (show o < 6 by omega) (show 6 ≤ 2147483648 by omega), clT (show r < 2147483648 by omega), clT (show o < 2147483648 by omega), hs.2.2.1 r (by omega), hs.2.2.1 o (by omega)]
  by_cases q1 : w (25 + 14 * r) = 0
  · simp only [if_pos q1]
    by_cases q2 : o = r
    · simp only [if_pos q2]
    · simp only [if_neg q2]
      split <;> rfl
  · simp only [if_neg q1]
theorem c_may_tell_out (g : HB np nr W H ru pg rd) (h : HC σ 3 np nr ru pg rd) (hw : WR σ) (hs : SC σ b w) {r : Nat} {y : Int32} (hr : r < nr) (hy : ¬ ∃ o, o < nr ∧ y = nI o) : fX8_may 11 b 3 (nI r) y σ = some 0 := by
  have g2 := g.2.1
  unfold fX8_may
  simp only [if_neg (show ¬ (3 : Int32) = 4 by decide), if_neg (show ¬ (3 : Int32) = 5 by decide), if_neg (show ¬ (3 : Int32) = 0 by decide), if_neg (show ¬ (3 : Int32) = 1 by decide), if_neg (show ¬ (3 : Int32) = 2 by decide), hw.1, Option.bind_some, c_hasReader g h hr, if_neg z1, c_hasDone hs (show r < 6 by omega), if_true, c_hasReader_out g h hy]
  split <;> rfl
theorem c_may_night (g : HB np nr W H ru pg rd) (h : HC σ 3 np nr ru pg rd) (hw : WR σ) {x y : Int32} : fX8_may 11 b 4 x y σ = some (if 0 < np then 1 else 0) := by
  unfold fX8_may
  simp only [if_true, hw.1, Option.bind_some, c_isOpen g h]
theorem c_may_hare (g : HB np nr W H ru pg rd) (h : HC σ 3 np nr ru pg rd) (hw : WR σ) {x : Int32} {c : Nat} (hc : c < W * H) : fX8_may 11 b 5 x (nI c) σ = some 1 := by
  unfold fX8_may
  simp only [if_neg (show ¬ (5 : Int32) = 4 by decide), if_true, hw.1, Option.bind_some, c_hasCell g h hc]
theorem c_may_hare_out (g : HB np nr W H ru pg rd) (h : HC σ 3 np nr ru pg rd) (hw : WR σ) {x y : Int32} (hy : ¬ ∃ c, c < W * H ∧ y = nI c) : fX8_may 11 b 5 x y σ = some 0 := by
  unfold fX8_may
  simp only [if_neg (show ¬ (5 : Int32) = 4 by decide), if_true, hw.1, Option.bind_some, c_hasCell_out g h hy]
/-! bits and sums of a snow -/
def mk (P : Nat → Bool) (n : Nat) : Int32 := fo (fun p acc => if P p = true then acc ||| shlI 1 (nI p) else acc) 0 n
theorem c_pagesThere (g : HB np nr W H ru pg rd) (h : HC σ 3 np nr ru pg rd) (hw : WR σ) (hR : SR σ b) (hs : SC σ b w) : fX8_pagesThere 11 b σ = some (mk (fun p => decide (¬ w (2 * p) ≤ 0)) np) := by
  have g1 := g.1
  unfold fX8_pagesThere fX8_pagesThere_w4
  have key : wh (fun a : Int32 × Int32 => fX8_pagesThere_l4 11 b a.1 a.2 σ) BIG (0, 0) = some (mk (fun p => decide (¬ w (2 * p) ≤ 0)) np) := by
    refine wh_run (fun i => (mk (fun p => decide (¬ w (2 * p) ≤ 0)) i, nI i)) np rfl (BIG_lt (by omega)) (fun i hi => ?_) ?_
    · unfold fX8_pagesThere_l4 fX8_pagesThere_b30
      have e6 : ¬ nI np ≤ nI i := fun z => absurd ((leT (by omega) (by omega)).mp z) (by omega)
      simp only [hw.1, Option.bind_some, h.2.2.2.2.2.2.1, if_neg e6, hR.1, hR.2.2.2.2.1, ixT (show i < 12 by omega) (show 12 ≤ 2147483648 by omega), if_true, clT (show i < 2147483648 by omega), hs.1 i (by omega), nI_1]
      unfold mk
      rw [fo_succ]
      by_cases q : w (2 * i) ≤ 0
      · rw [if_pos q, if_neg (by simpa using q)]
      · rw [if_neg q, if_pos (by simpa using q)]
    · unfold fX8_pagesThere_l4
      simp only [hw.1, Option.bind_some, h.2.2.2.2.2.2.1, if_pos (Int32.le_refl (nI np))]
  rw [key]; rfl
theorem c_depthInAll (g : HB np nr W H ru pg rd) (h : HC σ 3 np nr ru pg rd) (hw : WR σ) (hR : SR σ b) (hs : SC σ b w) : fX8_depthInAll 11 b σ = some (fo (fun p acc => acc + w (2 * p)) 0 np) := by
  have g1 := g.1
  unfold fX8_depthInAll fX8_depthInAll_w4
  have key : wh (fun a : Int32 × Int32 => fX8_depthInAll_l4 11 b a.1 a.2 σ) BIG (0, 0) = some (fo (fun p acc => acc + w (2 * p)) 0 np) := by
    refine wh_run (fun i => (fo (fun p acc => acc + w (2 * p)) 0 i, nI i)) np rfl (BIG_lt (by omega)) (fun i hi => ?_) ?_
    · unfold fX8_depthInAll_l4
      have e6 : ¬ nI np ≤ nI i := fun z => absurd ((leT (by omega) (by omega)).mp z) (by omega)
      simp only [hw.1, Option.bind_some, h.2.2.2.2.2.2.1, if_neg e6, hR.1, hR.2.2.2.2.1, ixT (show i < 12 by omega) (show 12 ≤ 2147483648 by omega), if_true, clT (show i < 2147483648 by omega), hs.1 i (by omega), nI_1]
      rw [fo_succ]
    · unfold fX8_depthInAll_l4
      simp only [hw.1, Option.bind_some, h.2.2.2.2.2.2.1, if_pos (Int32.le_refl (nI np))]
  rw [key]; rfl
theorem c_pagesKnown (g : HB np nr W H ru pg rd) (h : HC σ 3 np nr ru pg rd) (hw : WR σ) (hR : SR σ b) (hs : SC σ b w) : fX8_pagesKnown 11 b σ = some (fo (fun r acc => acc ||| sKn w r) 0 nr) := by
  have g2 := g.2.1
  unfold fX8_pagesKnown fX8_pagesKnown_w4
  have key : wh (fun a : Int32 × Int32 => fX8_pagesKnown_l4 11 b a.1 a.2 σ) BIG (0, 0) = some (fo (fun r acc => acc ||| sKn w r) 0 nr) := by
    refine wh_run (fun i => (fo (fun r acc => acc ||| sKn w r) 0 i, nI i)) nr rfl (BIG_lt (by omega)) (fun i hi => ?_) ?_
    · unfold fX8_pagesKnown_l4
      have e6 : ¬ nI nr ≤ nI i := fun z => absurd ((leT (by omega) (by omega)).mp z) (by omega)
      simp only [hw.1, Option.bind_some, h.2.2.2.2.2.2.2.1, if_neg e6, c_pagesKnownBy hR hs (show i < 6 by omega), nI_1]
      rw [fo_succ]
    · unfold fX8_pagesKnown_l4
      simp only [hw.1, Option.bind_some, h.2.2.2.2.2.2.2.1, if_pos (Int32.le_refl (nI nr))]
  rw [key]; rfl
end May
