/-! what melts, on the class's side -/
def SB (b : Nat) : Prop := (17 ≤ b ∧ b ≤ 42) ∨ (89 ≤ b ∧ b ≤ 303)
theorem scr_SB {b : Nat} (h : SB b) : ∀ j k, j ≤ 4 → scr (b + j) k = false := by
  intro j k hj
  unfold scr
  unfold SB at h
  simp only [Bool.or_eq_false_iff, Bool.and_eq_false_imp, beq_eq_false_iff_ne, decide_eq_true_eq, ne_eq]
  omega
def uw (w : Nat → Int32) (k : Nat) (v : Int32) : Nat → Int32 := fun j => if j = k then v else w j
def sLoss (mel : Nat → Int32) (w : Nat → Int32) (n : Nat) : Int32 := fo (fun p acc => if w (2 * p) ≤ 0 then acc else acc + minI (w (2 * p)) (mel p)) 0 n
def sBr (mel : Nat → Int32) (w : Nat → Int32) (n : Nat) : Nat → Int32 := fun k => if k < 2 * n ∧ k % 2 = 0 ∧ ¬ w k ≤ 0 then w k - minI (w k) (mel (k / 2)) else w k
def sD (b c k : Nat) : Bool := scr c k || c == b + 1
theorem sD_of {b c k : Nat} (h : sD b c k = false) : scr c k = false := by unfold sD at h; exact (Bool.or_eq_false_iff.mp h).1
theorem SC.depth {σ : Mm} {b : Nat} {w : Nat → Int32} {p : Nat} {v : Int32} (h : SC σ b w) (hp : p < 12) : SC (sI σ (b + 1) p v) b (uw w (2 * p) v) := by
  obtain ⟨h1, h2, h3, h4, h5, h6, D, hD, e, h7⟩ := h
  refine ⟨fun q hq => ?_, fun q hq => ?_, fun r hr => ?_, fun r q hr hq => ?_, ?_, ?_, D, hD, ?_, fun r hr => ?_⟩
  · rw [gI_sI]; unfold uw
    by_cases z : q = p
    · subst z; simp
    · rw [if_neg (by omega), if_neg (by omega)]; exact h1 q hq
  · rw [gI_sI, if_neg (by omega)]; unfold uw; rw [if_neg (by omega)]; exact h2 q hq
  · rw [gI_sI, if_neg (by omega)]; unfold uw; rw [if_neg (by omega)]; exact h3 r hr
  · rw [gI_sI, if_neg (by omega)]; unfold uw; rw [if_neg (by omega)]; exact h4 r q hr hq
  · rw [gI_sI, if_neg (by omega)]; unfold uw; rw [if_neg (by omega)]; exact h5
  · rw [gI_sI, if_neg (by omega)]; unfold uw; rw [if_neg (by omega)]; exact h6
  · rw [gI_sI, if_neg (by omega)]; exact e
  · unfold uw; rw [if_neg (by omega)]; exact h7 r hr
theorem sMelt_congr {lw : Option (Int32 → Int32 → Int32 → Int32 → Int32 → Int32 → Int32)} {ru pg rd w w' : Nat → Int32} {r p : Nat} {c n : Int32} (e1 : w' (2 * p) = w (2 * p)) (e2 : w' 108 = w 108) (e3 : w' 109 = w 109) : sMelt lw ru pg rd w' r p c n = sMelt lw ru pg rd w r p c n := by
  unfold sMelt
  rw [e2, e3, e1]
section Melt
variable {σ : Mm} {b np nr W H : Nat} {ru pg rd w : Nat → Int32} {lw : Option (Int32 → Int32 → Int32 → Int32 → Int32 → Int32 → Int32)}
theorem c_lose (hR : SR σ b) (hs : SC σ b w) {p : Nat} (hp : p < 12) (m : Int32) : fX6_lose b (nI p) m σ = some (minI (w (2 * p)) m, sI σ (b + 1) p (w (2 * p) - minI (w (2 * p)) m)) := by
  unfold fX6_lose
  have a1 : ¬ nI p < 0 := nI_pos (by omega)
  have a2 : nI p < 12 := (ltT (b := 12) (by omega) (by omega)).mpr hp
  have a3 : ixB (nI p) 12 = true := ixT hp (by omega)
  simp only [if_neg a1, if_pos a2, hR.1, Option.bind_some, hR.2.2.2.2.1, a3, if_true, clT (show p < 2147483648 by omega), hs.1 p hp]
theorem c_lossIn (g : HB np nr W H ru pg rd) (h : HC σ 3 np nr ru pg rd) (hw : WR σ) (hR : SR σ b) (hs : SC σ b w) (hl : LW σ lw) (hb : SB b) {r : Nat} (hr : r < nr) (c : Int32) : ∃ σ', fX8_lossIn 11 b (nI r) c σ = some (sLoss (fun p => sMelt lw ru pg rd w r p c (sOth nr w r c)) w np, σ') ∧ Sm scr σ σ' := by
  have g1 := g.1
  have g2 := g.2.1
  unfold fX8_lossIn fX8_lossIn_w15
  rw [c_others g h hw hR hs (by omega) c]
  generalize sOth nr w r c = o
  have key : ∃ x, wh (fun a : Int32 × Int32 × Mm => fX8_lossIn_l15 11 b (nI r) c o a.1 a.2.1 a.2.2) BIG (0, 0, σ) = some x ∧ (x.1 = sLoss (fun p => sMelt lw ru pg rd w r p c o) w np ∧ Sm scr σ x.2) := by
    refine wh_inv (fun i a => a.1 = sLoss (fun p => sMelt lw ru pg rd w r p c o) w i ∧ a.2.1 = nI i ∧ Sm scr σ a.2.2) _ np BIG 0 _ (Nat.zero_le _) (by unfold BIG; omega) ⟨rfl, rfl, Sm.rf⟩ ?_ ?_
    · rintro i ⟨acc, j, τ⟩ hi ⟨e1, e2, e3⟩
      simp only at e1 e2 e3
      subst e1 e2
      left
      have h' := h.sm e3 (by omega) (fun j k hj => by unfold scr; simp; omega)
      have hR' := hR.sm e3 (by unfold SB at hb; omega)
      have hs' := hs.sm e3 (scr_SB hb)
      have hl' := hl.sm e3 (fun j k hj => by unfold scr; simp; omega)
      have hw' := hw.sm e3
      have e6 : ¬ nI np ≤ nI i := fun z => absurd ((leT (by omega) (by omega)).mp z) (by omega)
      have a3 : ixB (nI i) 12 = true := ixT (by omega) (by omega)
      unfold fX8_lossIn_l15 fX8_lossIn_b63
      simp only [hw'.1, Option.bind_some, h'.2.2.2.2.2.2.1, if_neg e6, hR'.1, hR'.2.2.2.2.1, a3, if_true, clT (show i < 2147483648 by omega), hs'.1 i (by omega), nI_1]
      by_cases q : w (2 * i) ≤ 0
      · refine ⟨_, by rw [if_pos q], ?_, rfl, e3⟩
        unfold sLoss; rw [fo_succ, if_pos q]
      · obtain ⟨τ2, k1, k2⟩ := c_meltBy g h' hw' hR' hs' hl' (scr_SB hb) hr hi c o
        rw [if_neg q, k1]
        refine ⟨_, rfl, ?_, rfl, e3.tr k2⟩
        show _ = sLoss _ w (i + 1)
        unfold sLoss; rw [fo_succ, if_neg q]
    · rintro ⟨acc, j, τ⟩ ⟨e1, e2, e3⟩
      simp only at e1 e2 e3
      subst e1 e2
      have h' := h.sm e3 (by omega) (fun j k hj => by unfold scr; simp; omega)
      have hw' := hw.sm e3
      unfold fX8_lossIn_l15
      simp only [hw'.1, Option.bind_some, h'.2.2.2.2.2.2.1, if_pos (Int32.le_refl (nI np))]
      exact ⟨_, rfl, rfl, e3⟩
  obtain ⟨x, k1, k2, k3⟩ := key
  rw [Option.bind_some, k1]
  exact ⟨x.2, by rw [Option.bind_some, ← k2], k3⟩
theorem c_breathe (g : HB np nr W H ru pg rd) (h : HC σ 3 np nr ru pg rd) (hw : WR σ) (hR : SR σ b) (hs : SC σ b w) (hl : LW σ lw) (hb : SB b) {r : Nat} (hr : r < nr) (c : Int32) : ∃ σ', fX8_breathe 11 b (nI r) c σ = some (sLoss (fun p => sMelt lw ru pg rd w r p c (sOth nr w r c)) w np, σ') ∧ Sm (sD b) σ σ' ∧ SC σ' b (sBr (fun p => sMelt lw ru pg rd w r p c (sOth nr w r c)) w np) := by
  have g1 := g.1
  have g2 := g.2.1
  unfold fX8_breathe fX8_breathe_w15
  rw [c_others g h hw hR hs (by omega) c]
  generalize sOth nr w r c = o
  have key : ∃ x, wh (fun a : Int32 × Int32 × Mm => fX8_breathe_l15 11 b (nI r) c o a.1 a.2.1 a.2.2) BIG (0, 0, σ) = some x ∧ (x.1 = sLoss (fun p => sMelt lw ru pg rd w r p c o) w np ∧ Sm (sD b) σ x.2 ∧ SC x.2 b (sBr (fun p => sMelt lw ru pg rd w r p c o) w np)) := by
    refine wh_inv (fun i a => a.1 = sLoss (fun p => sMelt lw ru pg rd w r p c o) w i ∧ a.2.1 = nI i ∧ Sm (sD b) σ a.2.2 ∧ SC a.2.2 b (sBr (fun p => sMelt lw ru pg rd w r p c o) w i)) _ np BIG 0 _ (Nat.zero_le _) (by unfold BIG; omega) ⟨rfl, rfl, Sm.rf, ?_⟩ ?_ ?_
    · have : sBr (fun p => sMelt lw ru pg rd w r p c o) w 0 = w := by funext k; unfold sBr; rw [if_neg (by omega)]
      rw [this]; exact hs
    · rintro i ⟨acc, j, τ⟩ hi ⟨e1, e2, e3, hs'⟩
      simp only at e1 e2 e3 hs'
      subst e1 e2
      left
      unfold SB at hb
      have h' := h.sm e3 (by omega) (fun j k hj => by unfold sD scr; simp; omega)
      have hR' := hR.sm e3 (by omega)
      have hl' := hl.sm e3 (fun j k hj => by unfold sD scr; simp; omega)
      have hw' := hw.sm e3
      have e6 : ¬ nI np ≤ nI i := fun z => absurd ((leT (by omega) (by omega)).mp z) (by omega)
      have a3 : ixB (nI i) 12 = true := ixT (by omega) (by omega)
      have wi : sBr (fun p => sMelt lw ru pg rd w r p c o) w i (2 * i) = w (2 * i) := by unfold sBr; rw [if_neg (by omega)]
      have w8 : sBr (fun p => sMelt lw ru pg rd w r p c o) w i 108 = w 108 := by unfold sBr; rw [if_neg (by omega)]
      have w9 : sBr (fun p => sMelt lw ru pg rd w r p c o) w i 109 = w 109 := by unfold sBr; rw [if_neg (by omega)]
      unfold fX8_breathe_l15 fX8_breathe_b59
      simp only [hw'.1, Option.bind_some, h'.2.2.2.2.2.2.1, if_neg e6, hR'.1, hR'.2.2.2.2.1, a3, if_true, clT (show i < 2147483648 by omega), hs'.1 i (by omega), nI_1, wi]
      by_cases q : w (2 * i) ≤ 0
      · refine ⟨_, by rw [if_pos q], ?_, rfl, e3, ?_⟩
        · unfold sLoss; rw [fo_succ, if_pos q]
        · have : sBr (fun p => sMelt lw ru pg rd w r p c o) w (i + 1) = sBr (fun p => sMelt lw ru pg rd w r p c o) w i := by
            funext k; unfold sBr
            by_cases z : k = 2 * i
            · subst z; rw [if_neg (fun y => y.2.2 q), if_neg (fun y => y.2.2 q)]
            · by_cases y : k < 2 * i ∧ k % 2 = 0 ∧ ¬ w k ≤ 0
              · rw [if_pos y, if_pos ⟨by omega, y.2⟩]
              · rw [if_neg y, if_neg (fun x => y ⟨by omega, x.2⟩)]
          rw [this]; exact hs'
      · obtain ⟨τ2, k1, k2⟩ := c_meltBy g h' hw' hR' hs' hl' (scr_SB hb) hr hi c o
        rw [if_neg q, k1]
        have hm : sMelt lw ru pg rd (sBr (fun p => sMelt lw ru pg rd w r p c o) w i) r i c o = sMelt lw ru pg rd w r i c o := sMelt_congr wi w8 w9
        rw [bnd2_some, hm, c_lose (hR'.sm k2 (by omega)) (hs'.sm k2 (scr_SB hb)) (by omega), bnd2_some, wi]
        have hs2 := (hs'.sm k2 (scr_SB hb)).depth (p := i) (v := w (2 * i) - minI (w (2 * i)) (sMelt lw ru pg rd w r i c o)) (by omega)
        refine ⟨_, rfl, ?_, rfl, (e3.tr (k2.mono (fun c k hc => sD_of hc))).sI (by unfold sD; simp), ?_⟩
        · show _ = sLoss _ w (i + 1)
          unfold sLoss; rw [fo_succ, if_neg q]
        · have : sBr (fun p => sMelt lw ru pg rd w r p c o) w (i + 1) = uw (sBr (fun p => sMelt lw ru pg rd w r p c o) w i) (2 * i) (w (2 * i) - minI (w (2 * i)) (sMelt lw ru pg rd w r i c o)) := by
            funext k; unfold sBr uw
            by_cases z : k = 2 * i
            · subst z; rw [if_pos ⟨by omega, by omega, q⟩, if_pos rfl, show 2 * i / 2 = i from by omega]
            · rw [if_neg z]
              dsimp only
              by_cases y : k < 2 * i ∧ k % 2 = 0 ∧ ¬ w k ≤ 0
              · rw [if_pos y, if_pos ⟨by omega, y.2⟩]
              · rw [if_neg y, if_neg (fun x => y ⟨by omega, x.2⟩)]
          rw [this]; exact hs2
    · rintro ⟨acc, j, τ⟩ ⟨e1, e2, e3, hs'⟩
      simp only at e1 e2 e3 hs'
      subst e1 e2
      have h' := h.sm e3 (by omega) (fun j k hj => by unfold SB at hb; unfold sD scr; simp; omega)
      have hw' := hw.sm e3
      unfold fX8_breathe_l15
      simp only [hw'.1, Option.bind_some, h'.2.2.2.2.2.2.1, if_pos (Int32.le_refl (nI np))]
      exact ⟨_, rfl, rfl, e3, hs'⟩
  obtain ⟨x, k1, k2, k3, k4⟩ := key
  rw [Option.bind_some, k1]
  exact ⟨x.2, by rw [Option.bind_some, ← k2], k3, k4⟩
end Melt
