/-! acts, on the class's side -/
def sX (b c k : Nat) : Bool := sS b c k || scr c k
theorem sX_S {b c k : Nat} (h : sX b c k = false) : sS b c k = false := (Bool.or_eq_false_iff.mp h).1
theorem sX_r {b c k : Nat} (h : sX b c k = false) : scr c k = false := (Bool.or_eq_false_iff.mp h).2
theorem sX_D {b c k : Nat} (h : sX b c k = false) : sD b c k = false := by
  have h1 := sX_S h
  have h2 := sX_r h
  unfold sD
  unfold sS at h1
  rw [h2]
  simp only [Bool.false_or, beq_eq_false_iff_ne]
  simp only [Bool.and_eq_false_imp, decide_eq_true_eq, decide_eq_false_iff_not] at h1
  omega
section Carry
variable {σ : Mm} {b np nr W H : Nat} {ru pg rd w : Nat → Int32} {lw : Option (Int32 → Int32 → Int32 → Int32 → Int32 → Int32 → Int32)}
theorem c_learn (hR : SR σ b) {r p : Nat} (hr : r < 6) (hp : p < 12) (v : Int32) : fX6_learn b (nI r) (nI p) v σ = some (sI σ (b + 4) (12 * r + p) v) := by
  unfold fX6_learn
  have e : nI r * 12 + nI p = nI (12 * r + p) := by rw [show (12 : Int32) = nI 12 from rfl, pk_mul, nI_add, Nat.mul_comm r 12]
  rw [c_isMemory hr hp, Option.bind_some, if_neg (by decide), hR.2.2.2.1, Option.bind_some, e, hR.2.2.2.2.2.2.2, if_pos (ixT (by omega) (by omega)), clT (show 12 * r + p < 2147483648 by omega)]
def sTell (np r o : Nat) (w : Nat → Int32) : Nat → Int32 := fun k => if 26 + 14 * o ≤ k ∧ k < 26 + 14 * o + np ∧ w k = 0 then w (26 + 14 * r + (k - (26 + 14 * o))) else w k
theorem c_passOn (g : HB np nr W H ru pg rd) (h : HC σ 3 np nr ru pg rd) (hw : WR σ) (hR : SR σ b) (hs : SC σ b w) (hb : SB b) {r o : Nat} (hr : r < 6) (ho : o < 6) (hro : r ≠ o) : ∃ σ', fX8_passOn 11 b (nI r) (nI o) σ = some σ' ∧ Sm (sS b) σ σ' ∧ SC σ' b (sTell np r o w) := by
  have g1 := g.1
  unfold SB at hb
  unfold fX8_passOn fX8_passOn_w3
  have key : ∃ x, wh (fun a : Int32 × Mm => fX8_passOn_l3 11 b (nI r) (nI o) a.1 a.2) BIG (0, σ) = some x ∧ (Sm (sS b) σ x ∧ SC x b (sTell np r o w)) := by
    refine wh_inv (fun i a => a.1 = nI i ∧ Sm (sS b) σ a.2 ∧ SC a.2 b (sTell i r o w)) _ np BIG 0 _ (Nat.zero_le _) (by unfold BIG; omega) ⟨rfl, Sm.rf, ?_⟩ ?_ ?_
    · have : sTell 0 r o w = w := by funext k; unfold sTell; rw [if_neg (by omega)]
      rw [this]; exact hs
    · rintro i ⟨j, τ⟩ hi ⟨e1, e3, hs'⟩
      simp only at e1 e3 hs'
      subst e1
      left
      have h' := h.sm e3 (by omega) (fun j k hj => by unfold sS; simp; omega)
      have hR' := hR.sm e3 (by omega)
      have hw' := hw.sm e3
      have e6 : ¬ nI np ≤ nI i := fun z => absurd ((leT (by omega) (by omega)).mp z) (by omega)
      have wo : sTell i r o w (26 + 14 * o + i) = w (26 + 14 * o + i) := by unfold sTell; rw [if_neg (by omega)]
      have wr : sTell i r o w (26 + 14 * r + i) = w (26 + 14 * r + i) := by unfold sTell; rw [if_neg (by omega)]
      unfold fX8_passOn_l3 fX8_passOn_b40
      simp only [hw'.1, Option.bind_some, h'.2.2.2.2.2.2.1, if_neg e6, c_recall hR' hs' ho (show i < 12 by omega), c_recall hR' hs' hr (show i < 12 by omega), nI_1, sub1_m1, wo, wr]
      by_cases q : w (26 + 14 * o + i) = 0
      · rw [if_pos q, c_learn hR' ho (by omega)]
        refine ⟨_, rfl, rfl, e3.sI (by unfold sS; simp), ?_⟩
        have : sTell (i + 1) r o w = uw (sTell i r o w) (26 + 14 * o + i) (w (26 + 14 * r + i) - 1 + 1) := by
          funext k; unfold sTell uw
          rw [sub1_add1]
          by_cases z : k = 26 + 14 * o + i
          · subst z; rw [if_pos ⟨by omega, by omega, q⟩, if_pos rfl, show 26 + 14 * o + i - (26 + 14 * o) = i from by omega]
          · rw [if_neg z]
            dsimp only
            by_cases y : 26 + 14 * o ≤ k ∧ k < 26 + 14 * o + i ∧ w k = 0
            · rw [if_pos y, if_pos ⟨y.1, by omega, y.2.2⟩]
            · rw [if_neg y, if_neg (fun x => y ⟨x.1, by omega, x.2.2⟩)]
        rw [this]; exact hs'.mem ho (by omega)
      · rw [if_neg q]
        refine ⟨_, rfl, rfl, e3, ?_⟩
        have : sTell (i + 1) r o w = sTell i r o w := by
          funext k; unfold sTell
          by_cases y : 26 + 14 * o ≤ k ∧ k < 26 + 14 * o + i ∧ w k = 0
          · rw [if_pos y, if_pos ⟨y.1, by omega, y.2.2⟩]
          · rw [if_neg y, if_neg (fun x => y ⟨x.1, by
              have := x.2.1
              have h2 : k ≠ 26 + 14 * o + i := fun e => q (e ▸ x.2.2)
              omega, x.2.2⟩)]
        rw [this]; exact hs'
    · rintro ⟨j, τ⟩ ⟨e1, e3, hs'⟩
      simp only at e1 e3 hs'
      subst e1
      have h' := h.sm e3 (by omega) (fun j k hj => by unfold sS; simp; omega)
      have hw' := hw.sm e3
      unfold fX8_passOn_l3
      simp only [hw'.1, Option.bind_some, h'.2.2.2.2.2.2.1, if_pos (Int32.le_refl (nI np))]
      exact ⟨_, rfl, e3, hs'⟩
  obtain ⟨x, k1, k2, k3⟩ := key
  rw [k1]
  exact ⟨x, rfl, k2, k3⟩
theorem c_reaches (g : HB np nr W H ru pg rd) (h : HC σ 3 np nr ru pg rd) (hw : WR σ) (hR : SR σ b) (hs : SC σ b w) {r : Nat} (hr : r < nr) (hnp : 0 < np) (c : Int32) : fX8_reaches 11 b (nI r) c σ = some (if rd (4 * r + 2) < sAp ru (w (24 + 14 * r)) c then 0 else 1) := by
  have g2 := g.2.1
  unfold fX8_reaches
  simp only [hw.1, Option.bind_some, c_hasReader g h hr, if_neg (show ¬ (1 : Int32) = 0 by decide), hR.2.2.1, hR.2.2.2.2.2.2.1, ixT (show r < 6 by omega) (by omega), if_true, clT (show r < 2147483648 by omega), hs.2.2.1 r (by omega), c_steps g h hnp, c_speed g h hr]
  split <;> rfl
theorem c_reaches_out (g : HB np nr W H ru pg rd) (h : HC σ 3 np nr ru pg rd) (hw : WR σ) {x : Int32} (hx : ¬ ∃ p, p < nr ∧ x = nI p) (b : Nat) (c : Int32) : fX8_reaches 11 b x c σ = some 0 := by
  unfold fX8_reaches
  rw [hw.1, Option.bind_some, c_hasReader_out g h hx, Option.bind_some, if_pos rfl]
/-- a reading: the row when the reader stands there and knows, and then -/
def sRd (pg w : Nat → Int32) (r p : Nat) : Nat → Int32 := uw (uw (uw w (25 + 14 * r) 1) (24 + 14 * r) (pg (4 * p))) (26 + 14 * r + p) (w (2 * p + 1) + 1)
def sMel (lw : Option (Int32 → Int32 → Int32 → Int32 → Int32 → Int32 → Int32)) (nr : Nat) (ru pg rd w : Nat → Int32) (r : Nat) (c : Int32) : Nat → Int32 := fun q => sMelt lw ru pg rd w r q c (sOth nr w r c)
def sReadL (lw : Option (Int32 → Int32 → Int32 → Int32 → Int32 → Int32 → Int32)) (np nr : Nat) (ru pg rd w : Nat → Int32) (r p : Nat) : Int32 := sLoss (sMel lw nr ru pg rd (sRd pg w r p) r (pg (4 * p))) (sRd pg w r p) np
def sRead (lw : Option (Int32 → Int32 → Int32 → Int32 → Int32 → Int32 → Int32)) (np nr : Nat) (ru pg rd w : Nat → Int32) (r p : Nat) : Nat → Int32 := sBr (sMel lw nr ru pg rd (sRd pg w r p) r (pg (4 * p))) (sRd pg w r p) np
def sRecut (pg w : Nat → Int32) (r p : Nat) : Nat → Int32 := uw (uw (uw (uw w (25 + 14 * r) 1) (24 + 14 * r) (pg (4 * p))) (2 * p) 9) (2 * p + 1) (w (26 + 14 * r + p) - 1)
def sGo (w : Nat → Int32) (r : Nat) (c : Int32) : Nat → Int32 := uw (uw w (25 + 14 * r) 1) (24 + 14 * r) c
theorem c_go (g : HB np nr W H ru pg rd) (h : HC σ 3 np nr ru pg rd) (hw : WR σ) (hR : SR σ b) (hs : SC σ b w) (hb : SB b) {r : Nat} (hr : r < nr) (c : Int32) : ∃ σ', fX8_carryOut 11 b 2 (nI r) c σ = some (0, σ') ∧ Sm (sX b) σ σ' ∧ SC σ' b (sGo w r c) := by
  have g2 := g.2.1
  unfold fX8_carryOut
  simp only [hw.1, Option.bind_some, c_hasReader g h hr, if_neg (show ¬ (1 : Int32) = 0 by decide), if_neg (show ¬ (2 : Int32) = 4 by decide), if_neg (show ¬ (2 : Int32) = 5 by decide), if_neg (show ¬ (2 : Int32) = 3 by decide), if_true, hR.2.2.1, hR.2.2.2.2.2.2.1, ixT (show r < 6 by omega) (by omega), clT (show r < 2147483648 by omega)]
  exact ⟨_, rfl, (Sm.rf.sI (by unfold sX sS; simp)).sI (by unfold sX sS; simp), (hs.deed (by omega)).place (by omega)⟩
theorem c_tell (g : HB np nr W H ru pg rd) (h : HC σ 3 np nr ru pg rd) (hw : WR σ) (hR : SR σ b) (hs : SC σ b w) (hb : SB b) {r o : Nat} (hr : r < nr) (ho : o < nr) (hro : r ≠ o) : ∃ σ', fX8_carryOut 11 b 3 (nI r) (nI o) σ = some (0, σ') ∧ Sm (sX b) σ σ' ∧ SC σ' b (sTell np r o (uw w (25 + 14 * r) 1)) := by
  have g2 := g.2.1
  have hbb := hb
  unfold SB at hbb
  have s1 : Sm (sS b) σ (sI σ b 4 (gI σ b 4 ||| shlI 1 (nI r))) := Sm.rf.sI (by unfold sS; simp)
  obtain ⟨τ, k1, k2, k3⟩ := c_passOn g (h.sm s1 (by omega) (fun j k hj => by unfold sS; simp; omega)) (hw.sm s1) (hR.sm s1 (by omega)) (hs.deed (show r < 6 by omega)) hb (r := r) (o := o) (by omega) (by omega) hro
  unfold fX8_carryOut
  simp only [hw.1, Option.bind_some, c_hasReader g h hr, if_neg (show ¬ (1 : Int32) = 0 by decide), if_neg (show ¬ (3 : Int32) = 4 by decide), if_neg (show ¬ (3 : Int32) = 5 by decide), if_true, k1]
  exact ⟨τ, rfl, (s1.tr k2).mono (fun c k hc => sX_S hc), k3⟩
theorem c_night (g : HB np nr W H ru pg rd) (h : HC σ 3 np nr ru pg rd) (hw : WR σ) (hR : SR σ b) (hs : SC σ b w) (hb : SB b) (x y : Int32) : ∃ σ', fX8_carryOut 11 b 4 x y σ = some (sNightL ru np w, σ') ∧ Sm (sX b) σ σ' ∧ SC σ' b (sNight ru np w) := by
  obtain ⟨τ, k1, k2, k3⟩ := c_fallNight g h hw hR hs hb
  unfold fX8_carryOut
  rw [if_pos rfl, k1]
  exact ⟨τ, rfl, k2.mono (fun c k hc => sX_S hc), k3⟩
theorem c_hare (g : HB np nr W H ru pg rd) (h : HC σ 3 np nr ru pg rd) (hw : WR σ) (hR : SR σ b) (hs : SC σ b w) (hb : SB b) (x c : Int32) : ∃ σ', fX8_carryOut 11 b 5 x c σ = some (sCutL (fun p => decide (pg (4 * p) = c)) 3 w np, σ') ∧ Sm (sX b) σ σ' ∧ SC σ' b (sCut (fun p => decide (pg (4 * p) = c)) 3 np w) := by
  obtain ⟨τ, k1, k2, k3⟩ := c_nibble g h hw hR hs hb c
  unfold fX8_carryOut
  rw [if_neg (by decide), if_pos rfl, k1]
  exact ⟨τ, rfl, k2.mono (fun c k hc => sX_S hc), k3⟩
theorem c_recut (g : HB np nr W H ru pg rd) (h : HC σ 3 np nr ru pg rd) (hw : WR σ) (hR : SR σ b) (hs : SC σ b w) (hb : SB b) {r p : Nat} (hr : r < nr) (hp : p < np) : ∃ σ', fX8_carryOut 11 b 1 (nI r) (nI p) σ = some (0, σ') ∧ Sm (sX b) σ σ' ∧ SC σ' b (sRecut pg w r p) := by
  have g1 := g.1
  have g2 := g.2.1
  unfold SB at hb
  have s1 : Sm (sS b) σ (sI σ b 4 (gI σ b 4 ||| shlI 1 (nI r))) := Sm.rf.sI (by unfold sS; simp)
  have h1 := h.sm s1 (by omega) (fun j k hj => by unfold sS; simp; omega)
  have hs3 := ((hs.deed (show r < 6 by omega)).place (r0 := r) (v := pg (4 * p)) (by omega)).depth (p := p) (v := 9) (by omega)
  have s3 : Sm (sS b) σ (sI (sI (sI σ b 4 (gI σ b 4 ||| shlI 1 (nI r))) (b + 3) r (pg (4 * p))) (b + 1) p 9) := (s1.sI (by unfold sS; simp)).sI (by unfold sS; simp)
  have e9 := c_recall (hR.sm s3 (by omega)) hs3 (show r < 6 by omega) (show p < 12 by omega)
  unfold fX8_carryOut
  simp only [hw.1, Option.bind_some, c_hasReader g h hr, if_neg (show ¬ (1 : Int32) = 0 by decide), if_neg (show ¬ (1 : Int32) = 4 by decide), if_neg (show ¬ (1 : Int32) = 5 by decide), if_neg (show ¬ (1 : Int32) = 3 by decide), if_neg (show ¬ (1 : Int32) = 2 by decide), if_true, c_hasPage g h1 hp, c_pageCell g h1 hp, hR.1, hR.2.1, hR.2.2.1, hR.2.2.2.2.1, hR.2.2.2.2.2.1, hR.2.2.2.2.2.2.1, ixT (show r < 6 by omega) (show 6 ≤ 2147483648 by omega), ixT (show p < 12 by omega) (show 12 ≤ 2147483648 by omega), clT (show r < 2147483648 by omega), clT (show p < 2147483648 by omega), e9]
  have e10 : uw (uw (uw w (25 + 14 * r) 1) (24 + 14 * r) (pg (4 * p))) (2 * p) 9 (26 + 14 * r + p) = w (26 + 14 * r + p) := by
    unfold uw; rw [if_neg (by omega), if_neg (by omega), if_neg (by omega)]
  rw [e10]
  exact ⟨_, rfl, (s3.sI (by unfold sS; simp)).mono (fun c k hc => sX_S hc), hs3.says (by omega)⟩
theorem c_read (g : HB np nr W H ru pg rd) (h : HC σ 3 np nr ru pg rd) (hw : WR σ) (hR : SR σ b) (hs : SC σ b w) (hl : LW σ lw) (hb : SB b) {r p : Nat} (hr : r < nr) (hp : p < np) : ∃ σ', fX8_carryOut 11 b 0 (nI r) (nI p) σ = some (sReadL lw np nr ru pg rd w r p, σ') ∧ Sm (sX b) σ σ' ∧ SC σ' b (sRead lw np nr ru pg rd w r p) := by
  have g1 := g.1
  have g2 := g.2.1
  have hbb := hb
  unfold SB at hbb
  have s1 : Sm (sS b) σ (sI σ b 4 (gI σ b 4 ||| shlI 1 (nI r))) := Sm.rf.sI (by unfold sS; simp)
  have h1 := h.sm s1 (by omega) (fun j k hj => by unfold sS; simp; omega)
  have hs2 := (hs.deed (show r < 6 by omega)).place (r0 := r) (v := pg (4 * p)) (by omega)
  have s2 : Sm (sS b) σ (sI (sI σ b 4 (gI σ b 4 ||| shlI 1 (nI r))) (b + 3) r (pg (4 * p))) := s1.sI (by unfold sS; simp)
  have ey : gI (sI (sI σ b 4 (gI σ b 4 ||| shlI 1 (nI r))) (b + 3) r (pg (4 * p))) (b + 2) p = w (2 * p + 1) := by
    rw [hs2.2.1 p (by omega)]; unfold uw; rw [if_neg (by omega), if_neg (by omega)]
  have hs3 := hs2.mem (r0 := r) (p0 := p) (v := w (2 * p + 1)) (by omega) (by omega)
  have s3 : Sm (sS b) σ (sI (sI (sI σ b 4 (gI σ b 4 ||| shlI 1 (nI r))) (b + 3) r (pg (4 * p))) (b + 4) (12 * r + p) (w (2 * p + 1))) := s2.sI (by unfold sS; simp)
  have h3 := h.sm s3 (by omega) (fun j k hj => by unfold sS; simp; omega)
  have hR3 := hR.sm s3 (by omega)
  obtain ⟨τ, k1, k2, k3⟩ := c_breathe g h3 (hw.sm s3) hR3 hs3 (hl.sm s3 (fun j k hj => by unfold sS; simp; omega)) hb hr (pg (4 * p))
  unfold fX8_carryOut
  simp only [hw.1, Option.bind_some, c_hasReader g h hr, if_neg (show ¬ (1 : Int32) = 0 by decide), if_neg (show ¬ (0 : Int32) = 4 by decide), if_neg (show ¬ (0 : Int32) = 5 by decide), if_neg (show ¬ (0 : Int32) = 3 by decide), if_neg (show ¬ (0 : Int32) = 2 by decide), if_neg (show ¬ (0 : Int32) = 1 by decide), if_true, c_hasPage g h1 hp, c_pageCell g h1 hp, hR.1, hR.2.1, hR.2.2.1, hR.2.2.2.2.1, hR.2.2.2.2.2.1, hR.2.2.2.2.2.2.1, ixT (show r < 6 by omega) (show 6 ≤ 2147483648 by omega), ixT (show p < 12 by omega) (show 12 ≤ 2147483648 by omega), clT (show r < 2147483648 by omega), clT (show p < 2147483648 by omega), ey, c_learn (hR.sm s2 (by omega)) (show r < 6 by omega) (show p < 12 by omega)]
  have e3 : gI (sI (sI (sI σ b 4 (gI σ b 4 ||| shlI 1 (nI r))) (b + 3) r (pg (4 * p))) (b + 4) (12 * r + p) (w (2 * p + 1))) (b + 3) r = pg (4 * p) := by
    rw [hs3.2.2.1 r (by omega)]; unfold uw; rw [if_neg (by omega), if_pos rfl]
  rw [hR3.2.2.1, Option.bind_some, hR3.2.2.2.2.2.2.1, if_pos (ixT (show r < 6 by omega) (by omega)), e3, k1]
  exact ⟨τ, rfl, (s3.mono (fun c k hc => sX_S hc)).tr (k2.mono (fun c k hc => sX_D hc)), k3⟩
end Carry
