/-! bounds of a row and how acts keep them -/
def ub (D k : Nat) : Nat := if k < 24 then 9 else if k < 108 then (if (k - 24) % 14 = 0 then 29 else if (k - 24) % 14 = 1 then 1 else 10) else if k = 108 then 99 else D
def WU (D : Nat) (w : Nat → Int32) : Prop := ∀ k, k < 110 → ∃ n, n ≤ ub D k ∧ w k = nI n
theorem WU.wb {D : Nat} {w : Nat → Int32} (h : WU D w) : WB D w := by
  refine ⟨fun p hp => ⟨?_, ?_⟩, fun r hr => ⟨?_, ?_, fun p hp => ?_⟩, ?_, ?_⟩
  · obtain ⟨n, h1, h2⟩ := h (2 * p) (by omega)
    unfold ub at h1; rw [if_pos (by omega)] at h1
    exact ⟨n, h1, h2⟩
  · obtain ⟨n, h1, h2⟩ := h (2 * p + 1) (by omega)
    unfold ub at h1; rw [if_pos (by omega)] at h1
    exact ⟨n, by omega, h2⟩
  · obtain ⟨n, h1, h2⟩ := h (24 + 14 * r) (by omega)
    unfold ub at h1; rw [if_neg (by omega), if_pos (by omega), if_pos (by omega)] at h1
    exact ⟨n, by omega, h2⟩
  · obtain ⟨n, h1, h2⟩ := h (25 + 14 * r) (by omega)
    unfold ub at h1; rw [if_neg (by omega), if_pos (by omega), if_neg (by omega), if_pos (by omega)] at h1
    exact ⟨n, by omega, h2⟩
  · obtain ⟨n, h1, h2⟩ := h (26 + 14 * r + p) (by omega)
    unfold ub at h1; rw [if_neg (by omega), if_pos (by omega), if_neg (by omega), if_neg (by omega)] at h1
    exact ⟨n, h1, h2⟩
  · obtain ⟨n, h1, h2⟩ := h 108 (by omega)
    exact ⟨n, Nat.lt_succ_of_le h1, h2⟩
  · obtain ⟨n, h1, h2⟩ := h 109 (by omega)
    exact ⟨n, h1, h2⟩
theorem ub_mem {D r p : Nat} (hr : r < 6) (hp : p < 12) : ub D (26 + 14 * r + p) = 10 := by
  unfold ub; rw [if_neg (by omega), if_pos (by omega), if_neg (by omega), if_neg (by omega)]
theorem ub_pl {D r : Nat} (hr : r < 6) : ub D (24 + 14 * r) = 29 := by
  unfold ub; rw [if_neg (by omega), if_pos (by omega), if_pos (by omega)]
theorem ub_dn {D r : Nat} (hr : r < 6) : ub D (25 + 14 * r) = 1 := by
  unfold ub; rw [if_neg (by omega), if_pos (by omega), if_neg (by omega), if_pos (by omega)]
theorem ub_dp {D k : Nat} (h : k < 24) : ub D k = 9 := by
  unfold ub; rw [if_pos h]
theorem WU.up {D k : Nat} {w : Nat → Int32} {v : Int32} (h : WU D w) (n : Nat) (hn : n ≤ ub D k) (hv : v = nI n) : WU D (uw w k v) := by
  intro j hj
  unfold uw
  by_cases z : j = k
  · rw [if_pos z, z]; exact ⟨n, hn, hv⟩
  · rw [if_neg z]; exact h j hj
theorem WU.mono {D D' : Nat} {w : Nat → Int32} (h : WU D w) (hD : D ≤ D') : WU D' w := by
  intro k hk
  obtain ⟨n, h1, h2⟩ := h k hk
  refine ⟨n, ?_, h2⟩
  refine Nat.le_trans h1 ?_
  unfold ub
  by_cases a : k < 24
  · rw [if_pos a, if_pos a]; exact Nat.le_refl _
  · rw [if_neg a, if_neg a]
    by_cases b : k < 108
    · rw [if_pos b, if_pos b]; exact Nat.le_refl _
    · rw [if_neg b, if_neg b]
      by_cases c : k = 108
      · rw [if_pos c, if_pos c]; exact Nat.le_refl _
      · rw [if_neg c, if_neg c]; exact hD
theorem uw_comm {w : Nat → Int32} {a b : Nat} {x y : Int32} (h : a ≠ b) : uw (uw w a x) b y = uw (uw w b y) a x := by
  funext k
  unfold uw
  by_cases z : k = b
  · rw [if_pos z, if_neg (by omega), if_pos z]
  · rw [if_neg z]
    by_cases z2 : k = a
    · rw [if_pos z2, if_pos z2]
    · rw [if_neg z2, if_neg z2, if_neg z]
theorem uw_at {w : Nat → Int32} {a : Nat} {x : Int32} : uw w a x a = x := by unfold uw; rw [if_pos rfl]
theorem uw_ne {w : Nat → Int32} {a b : Nat} {x : Int32} (h : b ≠ a) : uw w a x b = w b := by unfold uw; rw [if_neg h]
theorem minN (a b : Nat) (ha : a < 2147483648) (hb : b < 2147483648) : minI (nI a) (nI b) = nI (min a b) := by
  unfold minI
  by_cases q : b < a
  · rw [if_pos ((ltT hb ha).mpr q), Nat.min_eq_right (by omega)]
  · rw [if_neg (fun x => q ((ltT hb ha).mp x)), Nat.min_eq_left (by omega)]
theorem maxN (a b : Nat) (ha : a < 2147483648) (hb : b < 2147483648) : maxI (nI a) (nI b) = nI (max a b) := by
  unfold maxI
  by_cases q : a < b
  · rw [if_pos ((ltT ha hb).mpr q), Nat.max_eq_right (by omega)]
  · rw [if_neg (fun x => q ((ltT ha hb).mp x)), Nat.max_eq_left (by omega)]
theorem max0 (x : Int32) : ∃ k, k < 2147483648 ∧ maxI 0 x = nI k ∧ (x < 0 ∧ k = 0 ∨ x = nI k) := by
  unfold maxI
  by_cases q : 0 < x
  · obtain ⟨k, hk, e⟩ := nI_of (x := x) (fun h => by rw [Int32.lt_iff_toInt_lt] at h q; omega)
    rw [if_pos q]; exact ⟨k, by omega, e, Or.inr e⟩
  · rw [if_neg q]
    refine ⟨0, by omega, rfl, ?_⟩
    by_cases z : x = 0
    · exact Or.inr z
    · left
      refine ⟨?_, rfl⟩
      by_cases y : x < 0
      · exact y
      · obtain ⟨k, hk, e⟩ := nI_of y
        rw [e] at q z
        exact absurd ((ltT (a := 0) (by omega) (by omega)).mpr (Nat.pos_of_ne_zero (fun x => z (by rw [x]; rfl)))) q
theorem clampN_ok (x : Int32) : ∃ k, k ≤ 9 ∧ clampN x = nI k := by
  unfold clampN
  obtain ⟨k, hk, e, h⟩ := max0 (minI 9 x)
  refine ⟨k, ?_, e⟩
  rcases h with ⟨-, rfl⟩ | h
  · omega
  · unfold minI at h
    by_cases q : x < 9
    · rw [if_pos q] at h
      rw [h] at q
      have := (ltT (b := 9) (by omega) (by omega)).mp q
      omega
    · rw [if_neg q] at h
      have := (eqT (a := 9) (by omega) (by omega)).mp h
      omega
theorem sMelt_ok (lw : Option LF) (ru pg rd w : Nat → Int32) (r p : Nat) (c n : Int32) : ∃ k, k ≤ 9 ∧ sMelt lw ru pg rd w r p c n = nI k := by
  unfold sMelt
  split
  · exact ⟨0, by omega, rfl⟩
  · exact clampN_ok _
theorem sOth_ok (nr : Nat) (w : Nat → Int32) (r : Nat) (c : Int32) (h : nr ≤ 6) : ∃ n, n ≤ nr ∧ sOth nr w r c = nI n := by
  unfold sOth
  clear h
  induction nr with
  | zero => exact ⟨0, by omega, rfl⟩
  | succ k ih =>
    obtain ⟨n, h1, h2⟩ := ih
    rw [fo_succ, h2]
    split
    · exact ⟨n, by omega, rfl⟩
    · split
      · exact ⟨n + 1, by omega, nI_1 n⟩
      · exact ⟨n, by omega, rfl⟩
/-- what is beyond the hall stays nought -/
def WZ (np nr : Nat) (w : Nat → Int32) : Prop := (∀ r p, r < 6 → np ≤ p → p < 12 → w (26 + 14 * r + p) = 0) ∧ ∀ r, nr ≤ r → r < 6 → w (25 + 14 * r) = 0
section Keep
variable {D np nr W H : Nat} {ru pg rd w : Nat → Int32} {lw : Option LF}
theorem dep_sub {a : Nat} {m : Int32} (ha : a ≤ 9) (hm : ∃ k, k ≤ 9 ∧ m = nI k) : ∃ n, n ≤ 9 ∧ nI a - minI (nI a) m = nI n := by
  obtain ⟨k, hk, rfl⟩ := hm
  rw [minN _ _ (by omega) (by omega), pk_sub (by omega)]
  exact ⟨_, by omega, rfl⟩
theorem WU.br {mel : Nat → Int32} {n : Nat} (hn : n ≤ 12) (h : WU D w) (hm : ∀ p, ∃ k, k ≤ 9 ∧ mel p = nI k) : WU D (sBr mel w n) := by
  intro k hk
  unfold sBr
  by_cases z : k < 2 * n ∧ k % 2 = 0 ∧ ¬ w k ≤ 0
  · rw [if_pos z, ub_dp (by omega)]
    obtain ⟨a, h1, h2⟩ := h k hk
    rw [ub_dp (by omega)] at h1
    rw [h2]
    exact dep_sub h1 (hm _)
  · rw [if_neg z]; exact h k hk
theorem WU.cut {t : Nat → Bool} {m : Int32} {n : Nat} (hn : n ≤ 12) (h : WU D w) (hm : ∃ k, k ≤ 9 ∧ m = nI k) : WU D (sCut t m n w) := by
  intro k hk
  unfold sCut
  by_cases z : k < 2 * n ∧ k % 2 = 0 ∧ t (k / 2) = true
  · rw [if_pos z, ub_dp (by omega)]
    obtain ⟨a, h1, h2⟩ := h k hk
    rw [ub_dp (by omega)] at h1
    rw [h2]
    exact dep_sub h1 hm
  · rw [if_neg z]; exact h k hk
theorem WU.rdd (g : HB np nr W H ru pg rd) (h : WU D w) {r p : Nat} (hr : r < nr) (hp : p < np) : WU D (sRd pg w r p) := by
  have g1 := g.1
  have g2 := g.2.1
  have hWH := WH_lt g
  obtain ⟨⟨c, hc, ec⟩, -⟩ := g.2.2.2.2.2.2.2.2.1 p hp
  obtain ⟨t, h1, h2⟩ := h (2 * p + 1) (by omega)
  rw [ub_dp (by omega)] at h1
  unfold sRd
  refine ((h.up 1 ?_ rfl).up c ?_ ec).up (t + 1) ?_ (by rw [h2, nI_1])
  · rw [ub_dn (by omega)]; exact Nat.le_refl 1
  · rw [ub_pl (by omega)]; omega
  · rw [ub_mem (by omega) (by omega)]; omega
theorem WU.read (g : HB np nr W H ru pg rd) (h : WU D w) {r p : Nat} (hr : r < nr) (hp : p < np) : WU D (sRead lw np nr ru pg rd w r p) :=
  WU.br g.1 (h.rdd g hr hp) (fun q => sMelt_ok _ _ _ _ _ _ _ _ _)
theorem WU.go (g : HB np nr W H ru pg rd) (h : WU D w) {r c : Nat} (hr : r < nr) (hc : c < W * H) : WU D (sGo w r (nI c)) := by
  have g2 := g.2.1
  have hWH := WH_lt g
  unfold sGo
  refine ((h.up 1 ?_ rfl).up c ?_ rfl)
  · rw [ub_dn (by omega)]; exact Nat.le_refl 1
  · rw [ub_pl (by omega)]; omega
theorem WU.recut (g : HB np nr W H ru pg rd) (h : WU D w) {r p : Nat} (hr : r < nr) (hp : p < np) (hk : ¬ w (26 + 14 * r + p) = 0) : WU D (sRecut pg w r p) := by
  have g1 := g.1
  have g2 := g.2.1
  have hWH := WH_lt g
  obtain ⟨⟨c, hc, ec⟩, -⟩ := g.2.2.2.2.2.2.2.2.1 p hp
  obtain ⟨t, h1, h2⟩ := h (26 + 14 * r + p) (by omega)
  rw [ub_mem (by omega) (by omega)] at h1
  have ht : t ≠ 0 := fun e => hk (by rw [h2, e]; rfl)
  unfold sRecut
  refine (((h.up 1 ?_ rfl).up c ?_ ec).up 9 ?_ rfl).up (t - 1) ?_ (by rw [h2, show (1 : Int32) = nI 1 from rfl, pk_sub (by omega)])
  · rw [ub_dn (by omega)]; exact Nat.le_refl 1
  · rw [ub_pl (by omega)]; omega
  · rw [ub_dp (by omega)]; omega
  · rw [ub_dp (by omega)]; omega
theorem WU.tell (g : HB np nr W H ru pg rd) (h : WU D w) {r o : Nat} (hr : r < nr) (ho : o < nr) : WU D (sTell np r o (uw w (25 + 14 * r) 1)) := by
  have g1 := g.1
  have g2 := g.2.1
  have h' : WU D (uw w (25 + 14 * r) 1) := h.up 1 (by rw [ub_dn (by omega)]; exact Nat.le_refl 1) rfl
  intro k hk
  unfold sTell
  by_cases z : 26 + 14 * o ≤ k ∧ k < 26 + 14 * o + np ∧ uw w (25 + 14 * r) 1 k = 0
  · rw [if_pos z]
    obtain ⟨q, rfl⟩ : ∃ q, k = 26 + 14 * o + q := ⟨k - (26 + 14 * o), by omega⟩
    obtain ⟨n, h1, h2⟩ := h' (26 + 14 * r + q) (by omega)
    rw [ub_mem (by omega) (by omega)] at h1
    rw [ub_mem (by omega) (by omega), show 26 + 14 * o + q - (26 + 14 * o) = q by omega]
    exact ⟨n, h1, h2⟩
  · rw [if_neg z]; exact h' k hk
theorem WU.ni (g : HB np nr W H ru pg rd) (h : WU D w) : WU (D + 1) (sNi ru w) := by
  obtain ⟨t, h1, h2⟩ := h 109 (by omega)
  obtain ⟨c, h3, h4⟩ := h 108 (by omega)
  obtain ⟨-, ⟨f, hf, ef⟩, -⟩ := g.2.2.2.2.2.2.2.2.2.2
  have h1' : t ≤ D := h1
  have h3' : c ≤ 99 := h3
  have h' : WU (D + 1) (uw (uw w 109 (w 109 + 1)) 108 (maxI 0 (w 108 - ru 3))) := by
    refine ((h.mono (Nat.le_succ D)).up (k := 109) (t + 1) (show t + 1 ≤ D + 1 by omega) (by rw [h2, nI_1])).up (k := 108) (c - f) (show c - f ≤ 99 by omega) ?_
    rw [h4, ef]
    by_cases q : f ≤ c
    · rw [pk_sub q, show (0 : Int32) = nI 0 from rfl, maxN _ _ (by omega) (by omega), Nat.max_eq_right (by omega)]
    · have := pk_sneg (a := c) (b := f) (by omega) (by omega)
      unfold maxI
      rw [if_neg (fun y => Int32.lt_irrefl (Int32.lt_trans y this)), show c - f = 0 by omega]
      rfl
  intro k hk
  unfold sNi sDawn
  by_cases z : 25 ≤ k ∧ k < 108 ∧ (k - 25) % 14 = 0
  · rw [if_pos z]; exact ⟨0, Nat.zero_le _, rfl⟩
  · rw [if_neg z]; exact h' k hk
theorem WU.night (g : HB np nr W H ru pg rd) (h : WU D w) : WU (D + 1) (sNight ru np w) := by
  unfold sNight
  split
  · exact WU.cut g.1 (h.ni g) ⟨1, by omega, rfl⟩
  · split
    · exact WU.cut g.1 (h.ni g) ⟨1, by omega, rfl⟩
    · exact h.ni g
theorem WZ.up {k : Nat} {v : Int32} (hz : WZ np nr w) (h1 : ∀ r p, r < 6 → np ≤ p → p < 12 → k ≠ 26 + 14 * r + p) (h2 : ∀ r, nr ≤ r → r < 6 → k ≠ 25 + 14 * r) : WZ np nr (uw w k v) :=
  ⟨fun r p hr hp h12 => by rw [uw_ne (h1 r p hr hp h12).symm]; exact hz.1 r p hr hp h12, fun r hr h6 => by rw [uw_ne (h2 r hr h6).symm]; exact hz.2 r hr h6⟩
theorem WZ.low {w' : Nat → Int32} (hz : WZ np nr w) (h : ∀ k, 24 ≤ k → w' k = w k) : WZ np nr w' :=
  ⟨fun r p hr hp h12 => by rw [h _ (by omega)]; exact hz.1 r p hr hp h12, fun r hr h6 => by rw [h _ (by omega)]; exact hz.2 r hr h6⟩
theorem WZ.rdd (hz : WZ np nr w) (h1 : np ≤ 12) {r p : Nat} (hr : r < nr) (hp : p < np) : WZ np nr (sRd pg w r p) := by
  unfold sRd
  refine ((hz.up ?_ ?_).up ?_ ?_).up ?_ ?_ <;> intros <;> omega
theorem WZ.read (g : HB np nr W H ru pg rd) (hz : WZ np nr w) {r p : Nat} (hr : r < nr) (hp : p < np) : WZ np nr (sRead lw np nr ru pg rd w r p) := by
  have g1 := g.1
  refine (hz.rdd (pg := pg) g1 hr hp).low (fun k hk => ?_)
  unfold sRead sBr
  rw [if_neg (by omega)]
theorem WZ.go (hz : WZ np nr w) {r : Nat} {c : Int32} (hr : r < nr) : WZ np nr (sGo w r c) := by
  unfold sGo
  refine (hz.up ?_ ?_).up ?_ ?_ <;> intros <;> omega
theorem WZ.recut (hz : WZ np nr w) (h1 : np ≤ 12) {r p : Nat} (hr : r < nr) (hp : p < np) : WZ np nr (sRecut pg w r p) := by
  unfold sRecut
  refine (((hz.up ?_ ?_).up ?_ ?_).up ?_ ?_).up ?_ ?_ <;> intros <;> omega
theorem WZ.tell (hz : WZ np nr w) (h1 : np ≤ 12) {r o : Nat} (hr : r < nr) : WZ np nr (sTell np r o (uw w (25 + 14 * r) 1)) := by
  have h' : WZ np nr (uw w (25 + 14 * r) 1) := by refine hz.up ?_ ?_ <;> intros <;> omega
  refine ⟨fun r' p' hr' hp' h12 => ?_, fun r' hr' h6 => ?_⟩
  · unfold sTell
    rw [if_neg (by omega)]; exact h'.1 r' p' hr' hp' h12
  · unfold sTell
    rw [if_neg (by omega)]; exact h'.2 r' hr' h6
theorem WZ.cut (hz : WZ np nr w) (h1 : np ≤ 12) {t : Nat → Bool} {m : Int32} : WZ np nr (sCut t m np w) := by
  refine hz.low (fun k hk => ?_)
  unfold sCut
  rw [if_neg (by omega)]
theorem WZ.ni (hz : WZ np nr w) : WZ np nr (sNi ru w) := by
  have h' : WZ np nr (uw (uw w 109 (w 109 + 1)) 108 (maxI 0 (w 108 - ru 3))) := by
    refine (hz.up ?_ ?_).up ?_ ?_ <;> intros <;> omega
  unfold sNi sDawn
  refine ⟨fun r' p' hr' hp' h12 => ?_, fun r' hr' h6 => ?_⟩
  · dsimp only
    rw [if_neg (by omega)]; exact h'.1 r' p' hr' hp' h12
  · dsimp only
    rw [if_pos (by omega)]
theorem WZ.night (hz : WZ np nr w) (h1 : np ≤ 12) : WZ np nr (sNight ru np w) := by
  unfold sNight
  split
  · exact hz.ni.cut h1
  · split
    · exact hz.ni.cut h1
    · exact hz.ni
end Keep
