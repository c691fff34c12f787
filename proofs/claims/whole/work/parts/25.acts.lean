/-! what acts do to a snow, on the class's side -/
theorem add1_sub1 (v : Int32) : v + 1 - 1 = v := Int32.add_sub_cancel v 1
theorem sub1_add1 (v : Int32) : v - 1 + 1 = v := Int32.sub_add_cancel v 1
theorem i4 (a b : Nat) (h : a < 12) (h2 : b < 12) {r s : Nat} (e : 12 * r + a = 12 * s + b) : r = s ∧ a = b := by omega
section Upd
variable {σ : Mm} {b : Nat} {w : Nat → Int32}
theorem SC.says {p : Nat} {v : Int32} (h : SC σ b w) (hp : p < 12) : SC (sI σ (b + 2) p v) b (uw w (2 * p + 1) v) := by
  obtain ⟨h1, h2, h3, h4, h5, h6, D, hD, e, h7⟩ := h
  refine ⟨fun q hq => ?_, fun q hq => ?_, fun r hr => ?_, fun r q hr hq => ?_, ?_, ?_, D, hD, ?_, fun r hr => ?_⟩
  · rw [gI_sI, if_neg (by omega)]; unfold uw; rw [if_neg (by omega)]; exact h1 q hq
  · rw [gI_sI]; unfold uw
    by_cases z : q = p
    · subst z; simp
    · rw [if_neg (by omega), if_neg (by omega)]; exact h2 q hq
  · rw [gI_sI, if_neg (by omega)]; unfold uw; rw [if_neg (by omega)]; exact h3 r hr
  · rw [gI_sI, if_neg (by omega)]; unfold uw; rw [if_neg (by omega)]; exact h4 r q hr hq
  · rw [gI_sI, if_neg (by omega)]; unfold uw; rw [if_neg (by omega)]; exact h5
  · rw [gI_sI, if_neg (by omega)]; unfold uw; rw [if_neg (by omega)]; exact h6
  · rw [gI_sI, if_neg (by omega)]; exact e
  · unfold uw; rw [if_neg (by omega)]; exact h7 r hr
theorem SC.place {r0 : Nat} {v : Int32} (h : SC σ b w) (hp : r0 < 6) : SC (sI σ (b + 3) r0 v) b (uw w (24 + 14 * r0) v) := by
  obtain ⟨h1, h2, h3, h4, h5, h6, D, hD, e, h7⟩ := h
  refine ⟨fun q hq => ?_, fun q hq => ?_, fun r hr => ?_, fun r q hr hq => ?_, ?_, ?_, D, hD, ?_, fun r hr => ?_⟩
  · rw [gI_sI, if_neg (by omega)]; unfold uw; rw [if_neg (by omega)]; exact h1 q hq
  · rw [gI_sI, if_neg (by omega)]; unfold uw; rw [if_neg (by omega)]; exact h2 q hq
  · rw [gI_sI]; unfold uw
    by_cases z : r = r0
    · subst z; simp
    · rw [if_neg (by omega), if_neg (by omega)]; exact h3 r hr
  · rw [gI_sI, if_neg (by omega)]; unfold uw; rw [if_neg (by omega)]; exact h4 r q hr hq
  · rw [gI_sI, if_neg (by omega)]; unfold uw; rw [if_neg (by omega)]; exact h5
  · rw [gI_sI, if_neg (by omega)]; unfold uw; rw [if_neg (by omega)]; exact h6
  · rw [gI_sI, if_neg (by omega)]; exact e
  · unfold uw; rw [if_neg (by omega)]; exact h7 r hr
theorem SC.mem {r0 p0 : Nat} {v : Int32} (h : SC σ b w) (hr0 : r0 < 6) (hp0 : p0 < 12) : SC (sI σ (b + 4) (12 * r0 + p0) v) b (uw w (26 + 14 * r0 + p0) (v + 1)) := by
  obtain ⟨h1, h2, h3, h4, h5, h6, D, hD, e, h7⟩ := h
  refine ⟨fun q hq => ?_, fun q hq => ?_, fun r hr => ?_, fun r q hr hq => ?_, ?_, ?_, D, hD, ?_, fun r hr => ?_⟩
  · rw [gI_sI, if_neg (by omega)]; unfold uw; rw [if_neg (by omega)]; exact h1 q hq
  · rw [gI_sI, if_neg (by omega)]; unfold uw; rw [if_neg (by omega)]; exact h2 q hq
  · rw [gI_sI, if_neg (by omega)]; unfold uw; rw [if_neg (by omega)]; exact h3 r hr
  · rw [gI_sI]; unfold uw
    by_cases z : r = r0 ∧ q = p0
    · obtain ⟨rfl, rfl⟩ := z
      simp [add1_sub1]
    · rw [if_neg (by omega), if_neg (by omega)]; exact h4 r q hr hq
  · rw [gI_sI, if_neg (by omega)]; unfold uw; rw [if_neg (by omega)]; exact h5
  · rw [gI_sI, if_neg (by omega)]; unfold uw; rw [if_neg (by omega)]; exact h6
  · rw [gI_sI, if_neg (by omega)]; exact e
  · unfold uw; rw [if_neg (by omega)]; exact h7 r hr
theorem SC.cold {v : Int32} (h : SC σ b w) : SC (sI σ b 5 v) b (uw w 108 v) := by
  obtain ⟨h1, h2, h3, h4, h5, h6, D, hD, e, h7⟩ := h
  refine ⟨fun q hq => ?_, fun q hq => ?_, fun r hr => ?_, fun r q hr hq => ?_, ?_, ?_, D, hD, ?_, fun r hr => ?_⟩
  · rw [gI_sI, if_neg (by omega)]; unfold uw; rw [if_neg (by omega)]; exact h1 q hq
  · rw [gI_sI, if_neg (by omega)]; unfold uw; rw [if_neg (by omega)]; exact h2 q hq
  · rw [gI_sI, if_neg (by omega)]; unfold uw; rw [if_neg (by omega)]; exact h3 r hr
  · rw [gI_sI, if_neg (by omega)]; unfold uw; rw [if_neg (by omega)]; exact h4 r q hr hq
  · rw [gI_sI, if_pos ⟨rfl, rfl⟩]; unfold uw; rw [if_pos rfl]
  · rw [gI_sI, if_neg (by omega)]; unfold uw; rw [if_neg (by omega)]; exact h6
  · rw [gI_sI, if_neg (by omega)]; exact e
  · unfold uw; rw [if_neg (by omega)]; exact h7 r hr
theorem SC.day {v : Int32} (h : SC σ b w) : SC (sI σ b 6 v) b (uw w 109 v) := by
  obtain ⟨h1, h2, h3, h4, h5, h6, D, hD, e, h7⟩ := h
  refine ⟨fun q hq => ?_, fun q hq => ?_, fun r hr => ?_, fun r q hr hq => ?_, ?_, ?_, D, hD, ?_, fun r hr => ?_⟩
  · rw [gI_sI, if_neg (by omega)]; unfold uw; rw [if_neg (by omega)]; exact h1 q hq
  · rw [gI_sI, if_neg (by omega)]; unfold uw; rw [if_neg (by omega)]; exact h2 q hq
  · rw [gI_sI, if_neg (by omega)]; unfold uw; rw [if_neg (by omega)]; exact h3 r hr
  · rw [gI_sI, if_neg (by omega)]; unfold uw; rw [if_neg (by omega)]; exact h4 r q hr hq
  · rw [gI_sI, if_neg (by omega)]; unfold uw; rw [if_neg (by omega)]; exact h5
  · rw [gI_sI, if_pos ⟨rfl, rfl⟩]; unfold uw; rw [if_pos rfl]
  · rw [gI_sI, if_neg (by omega)]; exact e
  · unfold uw; rw [if_neg (by omega)]; exact h7 r hr
theorem bit_set : ∀ r, r < 6 → ∀ D, D < 64 → nI D ||| shlI 1 (nI r) = nI (D ||| 2 ^ r) ∧ D ||| 2 ^ r < 64 ∧ ∀ k, k < 6 → (D ||| 2 ^ r) / 2 ^ k % 2 = if k = r then 1 else D / 2 ^ k % 2 := by decide +kernel
theorem SC.deed {r0 : Nat} (h : SC σ b w) (hr0 : r0 < 6) : SC (sI σ b 4 (gI σ b 4 ||| shlI 1 (nI r0))) b (uw w (25 + 14 * r0) 1) := by
  obtain ⟨h1, h2, h3, h4, h5, h6, D, hD, e, h7⟩ := h
  obtain ⟨b1, b2, b3⟩ := bit_set r0 hr0 D hD
  refine ⟨fun q hq => ?_, fun q hq => ?_, fun r hr => ?_, fun r q hr hq => ?_, ?_, ?_, D ||| 2 ^ r0, b2, ?_, fun r hr => ?_⟩
  · rw [gI_sI, if_neg (by omega)]; unfold uw; rw [if_neg (by omega)]; exact h1 q hq
  · rw [gI_sI, if_neg (by omega)]; unfold uw; rw [if_neg (by omega)]; exact h2 q hq
  · rw [gI_sI, if_neg (by omega)]; unfold uw; rw [if_neg (by omega)]; exact h3 r hr
  · rw [gI_sI, if_neg (by omega)]; unfold uw; rw [if_neg (by omega)]; exact h4 r q hr hq
  · rw [gI_sI, if_neg (by omega)]; unfold uw; rw [if_neg (by omega)]; exact h5
  · rw [gI_sI, if_neg (by omega)]; unfold uw; rw [if_neg (by omega)]; exact h6
  · rw [gI_sI, if_pos ⟨rfl, rfl⟩, e, b1]
  · rw [b3 r hr]; unfold uw
    by_cases z : r = r0
    · subst z; rw [if_pos rfl, if_pos rfl]; rfl
    · rw [if_neg (by omega), if_neg z]; exact h7 r hr
def sDawn (w : Nat → Int32) : Nat → Int32 := fun k => if 25 ≤ k ∧ k < 108 ∧ (k - 25) % 14 = 0 then 0 else w k
theorem SC.dawn (h : SC σ b w) : SC (sI σ b 4 0) b (sDawn w) := by
  obtain ⟨h1, h2, h3, h4, h5, h6, D, hD, e, h7⟩ := h
  refine ⟨fun q hq => ?_, fun q hq => ?_, fun r hr => ?_, fun r q hr hq => ?_, ?_, ?_, 0, by omega, ?_, fun r hr => ?_⟩
  · rw [gI_sI, if_neg (by omega)]; unfold sDawn; rw [if_neg (by omega)]; exact h1 q hq
  · rw [gI_sI, if_neg (by omega)]; unfold sDawn; rw [if_neg (by omega)]; exact h2 q hq
  · rw [gI_sI, if_neg (by omega)]; unfold sDawn; rw [if_neg (by omega)]; exact h3 r hr
  · rw [gI_sI, if_neg (by omega)]; unfold sDawn; rw [if_neg (by omega)]; exact h4 r q hr hq
  · rw [gI_sI, if_neg (by omega)]; unfold sDawn; rw [if_neg (by omega)]; exact h5
  · rw [gI_sI, if_neg (by omega)]; unfold sDawn; rw [if_neg (by omega)]; exact h6
  · rw [gI_sI, if_pos ⟨rfl, rfl⟩]; rfl
  · unfold sDawn; rw [if_pos (by omega), Nat.zero_div]; rfl
end Upd
/-- a loss of m at most of each page of which a test says so -/
def sCut (t : Nat → Bool) (m : Int32) (np : Nat) (w : Nat → Int32) : Nat → Int32 := fun k => if k < 2 * np ∧ k % 2 = 0 ∧ t (k / 2) = true then w k - minI (w k) m else w k
def sCutL (t : Nat → Bool) (m : Int32) (w : Nat → Int32) (np : Nat) : Int32 := fo (fun p acc => if t p = true then acc + minI (w (2 * p)) m else acc) 0 np
theorem sCut_0 {t : Nat → Bool} {m : Int32} {w : Nat → Int32} : sCut t m 0 w = w := by funext k; unfold sCut; rw [if_neg (by omega)]
theorem sCut_at {t : Nat → Bool} {m : Int32} {w : Nat → Int32} {i : Nat} : sCut t m i w (2 * i) = w (2 * i) := by unfold sCut; rw [if_neg (by omega)]
theorem sCut_no {t : Nat → Bool} {m : Int32} {w : Nat → Int32} {i : Nat} (h : ¬ t i = true) : sCut t m (i + 1) w = sCut t m i w := by
  funext k; unfold sCut
  by_cases z : k = 2 * i
  · subst z; rw [if_neg (fun y => h (by have := y.2.2; rwa [show 2 * i / 2 = i from by omega] at this)), if_neg (by omega)]
  · by_cases y : k < 2 * i ∧ k % 2 = 0 ∧ t (k / 2) = true
    · rw [if_pos y, if_pos ⟨by omega, y.2⟩]
    · rw [if_neg y, if_neg (fun x => y ⟨by omega, x.2⟩)]
theorem sCut_yes {t : Nat → Bool} {m : Int32} {w : Nat → Int32} {i : Nat} (h : t i = true) : sCut t m (i + 1) w = uw (sCut t m i w) (2 * i) (w (2 * i) - minI (w (2 * i)) m) := by
  funext k; unfold sCut uw
  by_cases z : k = 2 * i
  · subst z; rw [if_pos ⟨by omega, by omega, by rw [show 2 * i / 2 = i from by omega]; exact h⟩, if_pos rfl]
  · rw [if_neg z]
    dsimp only
    by_cases y : k < 2 * i ∧ k % 2 = 0 ∧ t (k / 2) = true
    · rw [if_pos y, if_pos ⟨by omega, y.2⟩]
    · rw [if_neg y, if_neg (fun x => y ⟨by omega, x.2⟩)]
section Acts
variable {σ : Mm} {b np nr W H : Nat} {ru pg rd w : Nat → Int32} {lw : Option (Int32 → Int32 → Int32 → Int32 → Int32 → Int32 → Int32)}
def sS (b c _k : Nat) : Bool := decide (b ≤ c) && decide (c ≤ b + 4)
theorem c_nibble (g : HB np nr W H ru pg rd) (h : HC σ 3 np nr ru pg rd) (hw : WR σ) (hR : SR σ b) (hs : SC σ b w) (hb : SB b) (c : Int32) : ∃ σ', fX8_nibble 11 b c σ = some (sCutL (fun p => decide (pg (4 * p) = c)) 3 w np, σ') ∧ Sm (sS b) σ σ' ∧ SC σ' b (sCut (fun p => decide (pg (4 * p) = c)) 3 np w) := by
  have g1 := g.1
  unfold SB at hb
  unfold fX8_nibble fX8_nibble_w5
  have key : ∃ x, wh (fun a : Int32 × Int32 × Mm => fX8_nibble_l5 11 b c a.1 a.2.1 a.2.2) BIG (0, 0, σ) = some x ∧ (x.1 = sCutL (fun p => decide (pg (4 * p) = c)) 3 w np ∧ Sm (sS b) σ x.2 ∧ SC x.2 b (sCut (fun p => decide (pg (4 * p) = c)) 3 np w)) := by
    refine wh_inv (fun i a => a.1 = sCutL (fun p => decide (pg (4 * p) = c)) 3 w i ∧ a.2.1 = nI i ∧ Sm (sS b) σ a.2.2 ∧ SC a.2.2 b (sCut (fun p => decide (pg (4 * p) = c)) 3 i w)) _ np BIG 0 _ (Nat.zero_le _) (by unfold BIG; omega) ⟨rfl, rfl, Sm.rf, by rw [sCut_0]; exact hs⟩ ?_ ?_
    · rintro i ⟨acc, j, τ⟩ hi ⟨e1, e2, e3, hs'⟩
      simp only at e1 e2 e3 hs'
      subst e1 e2
      left
      have h' := h.sm e3 (by omega) (fun j k hj => by unfold sS; simp; omega)
      have hR' := hR.sm e3 (by omega)
      have hw' := hw.sm e3
      have e6 : ¬ nI np ≤ nI i := fun z => absurd ((leT (by omega) (by omega)).mp z) (by omega)
      unfold fX8_nibble_l5 fX8_nibble_b40
      simp only [hw'.1, Option.bind_some, h'.2.2.2.2.2.2.1, if_neg e6, c_pageCell g h' hi, nI_1]
      by_cases q : pg (4 * i) = c
      · rw [if_pos q, c_lose hR' hs' (by omega), bnd2_some, sCut_at]
        refine ⟨_, rfl, ?_, rfl, e3.sI (by unfold sS; simp), ?_⟩
        · show _ = sCutL _ 3 w (i + 1)
          unfold sCutL; rw [fo_succ, if_pos (decide_eq_true q)]
        · rw [sCut_yes (decide_eq_true q)]; exact hs'.depth (by omega)
      · rw [if_neg q]
        refine ⟨_, rfl, ?_, rfl, e3, ?_⟩
        · show _ = sCutL _ 3 w (i + 1)
          unfold sCutL; rw [fo_succ, if_neg (by simpa using q)]
        · rw [sCut_no (by simpa using q)]; exact hs'
    · rintro ⟨acc, j, τ⟩ ⟨e1, e2, e3, hs'⟩
      simp only at e1 e2 e3 hs'
      subst e1 e2
      have h' := h.sm e3 (by omega) (fun j k hj => by unfold sS; simp; omega)
      have hw' := hw.sm e3
      unfold fX8_nibble_l5
      simp only [hw'.1, Option.bind_some, h'.2.2.2.2.2.2.1, if_pos (Int32.le_refl (nI np))]
      exact ⟨_, rfl, rfl, e3, hs'⟩
  obtain ⟨x, k1, k2, k3, k4⟩ := key
  rw [k1]
  exact ⟨x.2, by rw [Option.bind_some, ← k2], k3, k4⟩
theorem c_fall (g : HB np nr W H ru pg rd) (h : HC σ 3 np nr ru pg rd) (hw : WR σ) (hR : SR σ b) (hs : SC σ b w) (hb : SB b) : ∃ σ', fX8_fallNight_b58 11 b σ = some (sCutL (fun _ => true) 1 w np, σ') ∧ Sm (sS b) σ σ' ∧ SC σ' b (sCut (fun _ => true) 1 np w) := by
  have g1 := g.1
  unfold SB at hb
  unfold fX8_fallNight_b58 fX8_fallNight_w62
  have key : ∃ x, wh (fun a : Int32 × Int32 × Mm => fX8_fallNight_l62 11 b a.1 a.2.1 a.2.2) BIG (0, 0, σ) = some x ∧ (x.1 = sCutL (fun _ => true) 1 w np ∧ Sm (sS b) σ x.2 ∧ SC x.2 b (sCut (fun _ => true) 1 np w)) := by
    refine wh_inv (fun i a => a.1 = sCutL (fun _ => true) 1 w i ∧ a.2.1 = nI i ∧ Sm (sS b) σ a.2.2 ∧ SC a.2.2 b (sCut (fun _ => true) 1 i w)) _ np BIG 0 _ (Nat.zero_le _) (by unfold BIG; omega) ⟨rfl, rfl, Sm.rf, by rw [sCut_0]; exact hs⟩ ?_ ?_
    · rintro i ⟨acc, j, τ⟩ hi ⟨e1, e2, e3, hs'⟩
      simp only at e1 e2 e3 hs'
      subst e1 e2
      left
      have h' := h.sm e3 (by omega) (fun j k hj => by unfold sS; simp; omega)
      have hR' := hR.sm e3 (by omega)
      have hw' := hw.sm e3
      have e6 : ¬ nI np ≤ nI i := fun z => absurd ((leT (by omega) (by omega)).mp z) (by omega)
      unfold fX8_fallNight_l62
      simp only [hw'.1, Option.bind_some, h'.2.2.2.2.2.2.1, if_neg e6, nI_1]
      rw [c_lose hR' hs' (by omega), bnd2_some, sCut_at]
      refine ⟨_, rfl, ?_, rfl, e3.sI (by unfold sS; simp), ?_⟩
      · show _ = sCutL _ 1 w (i + 1)
        unfold sCutL; rw [fo_succ, if_pos rfl]
      · rw [sCut_yes rfl]; exact hs'.depth (by omega)
    · rintro ⟨acc, j, τ⟩ ⟨e1, e2, e3, hs'⟩
      simp only at e1 e2 e3 hs'
      subst e1 e2
      have h' := h.sm e3 (by omega) (fun j k hj => by unfold sS; simp; omega)
      have hw' := hw.sm e3
      unfold fX8_fallNight_l62
      simp only [hw'.1, Option.bind_some, h'.2.2.2.2.2.2.1, if_pos (Int32.le_refl (nI np))]
      exact ⟨_, rfl, rfl, e3, hs'⟩
  obtain ⟨x, k1, k2, k3, k4⟩ := key
  rw [k1]
  exact ⟨x.2, by rw [Option.bind_some, ← k2], k3, k4⟩
/-- a night -/
def sNi (ru w : Nat → Int32) : Nat → Int32 := sDawn (uw (uw w 109 (w 109 + 1)) 108 (maxI 0 (w 108 - ru 3)))
def sNight (ru : Nat → Int32) (np : Nat) (w : Nat → Int32) : Nat → Int32 := if maxI 0 (w 108 - ru 3) ≤ 0 then sCut (fun _ => true) 1 np (sNi ru w) else if ru 4 ≤ w 109 + 1 then sCut (fun _ => true) 1 np (sNi ru w) else sNi ru w
def sNightL (ru : Nat → Int32) (np : Nat) (w : Nat → Int32) : Int32 := if maxI 0 (w 108 - ru 3) ≤ 0 then sCutL (fun _ => true) 1 (sNi ru w) np else if ru 4 ≤ w 109 + 1 then sCutL (fun _ => true) 1 (sNi ru w) np else 0
theorem c_fallNight (g : HB np nr W H ru pg rd) (h : HC σ 3 np nr ru pg rd) (hw : WR σ) (hR : SR σ b) (hs : SC σ b w) (hb : SB b) : ∃ σ', fX8_fallNight 11 b σ = some (sNightL ru np w, σ') ∧ Sm (sS b) σ σ' ∧ SC σ' b (sNight ru np w) := by
  have hbb := hb
  unfold SB at hbb
  have b0 : ∀ k, sS b b k = true := fun k => by unfold sS; simp
  have s1 : Sm (sS b) σ (sI σ b 6 (w 109 + 1)) := Sm.rf.sI (b0 6)
  have s2 : Sm (sS b) σ (sI (sI (sI σ b 6 (w 109 + 1)) b 5 (maxI 0 (w 108 - ru 3))) b 4 0) := (s1.sI (b0 5)).sI (b0 4)
  have h1 := h.sm s1 (by omega) (fun j k hj => by unfold sS; simp; omega)
  have h2 := h.sm s2 (by omega) (fun j k hj => by unfold sS; simp; omega)
  have hs2 : SC (sI (sI (sI σ b 6 (w 109 + 1)) b 5 (maxI 0 (w 108 - ru 3))) b 4 0) b (sNi ru w) := (hs.day.cold).dawn
  obtain ⟨τ, k1, k2, k3⟩ := c_fall g h2 (hw.sm s2) (hR.sm s2 (by omega)) hs2 hb
  unfold fX8_fallNight sNightL sNight
  simp only [hw.1, Option.bind_some, hs.2.2.2.2.2.1, (c_rules h1).2.2.2.1]
  have v5 : gI (sI σ b 6 (w 109 + 1)) b 5 = w 108 := by rw [gI_sI, if_neg (by omega)]; exact hs.2.2.2.2.1
  simp only [v5, (c_rules h2).2.2.2.2, Option.bind_some]
  have v5' : gI (sI (sI (sI σ b 6 (w 109 + 1)) b 5 (maxI 0 (w 108 - ru 3))) b 4 0) b 5 = maxI 0 (w 108 - ru 3) := by rw [gI_sI, if_neg (by omega), gI_sI, if_pos ⟨rfl, rfl⟩]
  have v6' : gI (sI (sI (sI σ b 6 (w 109 + 1)) b 5 (maxI 0 (w 108 - ru 3))) b 4 0) b 6 = w 109 + 1 := by rw [gI_sI, if_neg (by omega), gI_sI, if_neg (by omega), gI_sI, if_pos ⟨rfl, rfl⟩]
  rw [v5', v6']
  by_cases q1 : maxI 0 (w 108 - ru 3) ≤ 0
  · simp only [if_pos q1]
    exact ⟨τ, k1, s2.tr k2, k3⟩
  · by_cases q2 : ru 4 ≤ w 109 + 1
    · simp only [if_neg q1, if_pos q2]
      exact ⟨τ, k1, s2.tr k2, k3⟩
    · simp only [if_neg q1, if_neg q2]
      exact ⟨_, rfl, s2, hs2⟩
end Acts
