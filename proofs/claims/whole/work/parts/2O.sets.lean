/-! sets of readers; nights apart -/
section Sets
variable {σ τ : Mm} {D np nr W H S acts nl : Nat} {ru pg rd w v : Nat → Int32} {F : Nat → LF} {lw : Option LF} {jl pw : Nat → Nat → Int32}
theorem pow6 (h : nr ≤ 6) : 2 ^ nr ≤ 64 := Nat.pow_le_pow_right (n := 2) (by omega) h
theorem n1_iff {m : Nat} (h : m < 2147483648) : nI m = 1 ↔ m = 1 := eqT (b := 1) h (by omega)
theorem bit1 {a k : Nat} (ha : a < 2147483648) (hk : k < 31) : (shrI (nI a) (nI k) &&& 1 = 1) ↔ a / 2 ^ k % 2 = 1 := by
  rw [bitAt ha hk]; exact n1_iff (by omega)
theorem m_has {a k : Nat} (ha : a < 2147483648) (hk : k < 31) : fX10_has (nI a) (nI k) τ = some (if a / 2 ^ k % 2 = 1 then 1 else 0) := by
  unfold fX10_has
  by_cases q : a / 2 ^ k % 2 = 1
  · rw [if_pos ((bit1 ha hk).mpr q), if_pos q]
  · rw [if_neg (fun z => q ((bit1 ha hk).mp z)), if_neg q]
def sKS (w : Nat → Int32) (nr set : Nat) : Int32 := fo (fun r acc => if set / 2 ^ r % 2 = 1 then acc ||| sKn w r else acc) 0 nr
theorem c_knownSet (hC : CC σ np nr W H ru pg rd lw w S jl acts pw) {set : Nat} (hs : set < 2147483648) : fX0_knownBySet 13 89 (nI set) σ = some (sKS w nr set) := by
  have g := hC.g
  have g2 := g.2.1
  obtain ⟨f0, f1, -⟩ := fin0 hC.rf
  have c89 := hC.rf.sr89
  unfold fX0_knownBySet fX0_knownBySet_w5
  have key : wh (fun a : Int32 × Int32 => fX0_knownBySet_l5 13 89 (nI set) a.1 a.2 σ) BIG (0, 0) = some (sKS w nr set) := by
    refine wh_run (fun i => (fo (fun r acc => if set / 2 ^ r % 2 = 1 then acc ||| sKn w r else acc) 0 i, nI i)) nr rfl (BIG_lt (by omega)) (fun i hi => ?_) ?_
    · unfold fX0_knownBySet_l5 fX0_knownBySet_b36
      have e6 : ¬ nI nr ≤ nI i := fun z => absurd ((leT (by omega) (by omega)).mp z) (by omega)
      rw [fo_succ]
      generalize fo _ 0 i = acc
      simp only [f0, Option.bind_some, hC.hc.2.2.2.2.2.2.2.1, if_neg e6, c_pagesKnownBy c89 hC.sc (show i < 6 by omega), nI_1]
      by_cases q : set / 2 ^ i % 2 = 1
      · rw [if_pos ((bit1 hs (by omega)).mpr q), if_pos q]
      · rw [if_neg (fun z => q ((bit1 hs (by omega)).mp z)), if_neg q]
    · unfold fX0_knownBySet_l5
      simp only [f0, Option.bind_some, hC.hc.2.2.2.2.2.2.2.1, if_pos (Int32.le_refl _)]
      rfl
  rw [key]; rfl
theorem isBook_t {x : Int32} (h : ∃ k, 0 ≤ k ∧ k ≤ 4 ∧ x = nI k) : fX9_isBook x σ = some 1 := by
  obtain ⟨k, -, hk, rfl⟩ := h
  unfold fX9_isBook
  rw [if_neg (nI_pos (by omega)), if_neg (show ¬ (5 : Int32) ≤ nI k from fun z => absurd ((leT (a := 5) (by omega) (by omega)).mp z) (by omega))]
theorem isBook_f {x : Int32} (h : ¬ ∃ k, 0 ≤ k ∧ k ≤ 4 ∧ x = nI k) : fX9_isBook x σ = some 0 := by
  unfold fX9_isBook
  rcases i32_out (N := 5) (by omega) (nin2 h) with h | ⟨h, h2⟩
  · rw [if_pos h]
  · rw [if_neg h, if_pos (show 5 ≤ x from h2)]
theorem Q_who (h : CM np nr W H ru pg rd nl F lw D w S jl acts pw σ) (hnp : 0 < np) (x : Int32) : WV np nr W H ru pg rd nl F lw σ (fX9_who 0 x σ) (fX10_who 310 x σ) := by
  have g := h.g
  have g1 := g.1
  have g2 := g.2.1
  have hM := h.mm.thr
  have p2 := pow6 g2
  have hC := h.1
  obtain ⟨f0, f1, -⟩ := fin0 h.rf
  unfold fX9_who fX10_who
  rw [h.rf.hall, Option.bind_some, c_isOpen g h.hc, Option.bind_some, if_pos hnp, if_neg z1, hM.1.hm.2.2.1, if_neg (nI_ne0 hnp (by omega))]
  rcases in4 (x := x) (n := 4) with hx | hx
  · have hin : fX10_isIn (Int32.toInt64 x) 0 4 (sI σ 310 0 0) = some 1 := isInT (a := 0) (b := 4) hx (by omega)
    rw [isBook_t hx, hin]
    simp only [Option.bind_some, if_neg z1, h.rf.fin, h.rf.now, m_bookBits g hM.1.hm]
    unfold fX0_fewestWhoKnow fX0_fewestWhoKnow_w15 fX10_who_w37
    simp only [f0, Option.bind_some, c_pagesOf g h.hc]
    have inn : ∀ a3 i, i < 64 → fX10_who_w54 310 (mk (bkB pg x) np) a3 (nI i) 0 0 (sI σ 310 0 0) = some (sKS w nr i) := by
      intro a3 set hs
      unfold fX10_who_w54
      refine wh_run (fun i => (fo (fun r acc => if set / 2 ^ r % 2 = 1 then acc ||| sKn w r else acc) 0 i, nI i)) nr rfl (BIG_lt (by omega)) (fun i hi => ?_) ?_
      · unfold fX10_who_l54 fX10_who_b88
        have e6 : ¬ nI nr ≤ nI i := fun z => absurd ((leT (by omega) (by omega)).mp z) (by omega)
        rw [fo_succ]
        generalize fo _ 0 i = acc
        simp only [hM.1.hm.2.2.2.1, if_neg e6, m_has (show set < 2147483648 by omega) (show i < 31 by omega), Option.bind_some, hM.r33, m_knownBits ln323 hM.2.1 h.wu (show i < 6 by omega), nI_1]
        by_cases q : set / 2 ^ i % 2 = 1
        · simp only [if_pos q, if_neg z1]
        · simp only [if_neg q, if_true, Int32.or_zero]
      · unfold fX10_who_l54
        simp only [hM.1.hm.2.2.2.1, if_pos (Int32.le_refl _)]
        rfl
    have key : ∃ b d, wh (fun a : Int32 × Int32 => fX0_fewestWhoKnow_l15 13 89 (mk (bkB pg x) np) a.1 a.2 σ) BIG (-1, 0) = some b ∧ wh (fun a : Int32 × Int32 => fX10_who_l37 310 (mk (bkB pg x) np) a.1 a.2 (sI σ 310 0 0)) BIG (-1, 0) = some d ∧ d = (b, sI σ 310 0 0) := by
      refine wh_two (fun i a c => a = c ∧ a.2 = nI i) _ (2 ^ nr) BIG 0 _ _ (Nat.zero_le _) (by unfold BIG; omega) ⟨rfl, rfl⟩ ?_ ?_
      · rintro i ⟨a, j⟩ c hi ⟨rfl, e1⟩
        simp only at e1
        subst e1
        left
        have e6 : ¬ nI (2 ^ nr) ≤ nI i := fun z => absurd ((leT (by omega) (by omega)).mp z) (by omega)
        unfold fX0_fewestWhoKnow_l15 fX0_fewestWhoKnow_b48 fX0_fewestWhoKnow_b53 fX0_fewestWhoKnow_b78 fX10_who_l37 fX10_who_b123 fX10_who_b126
        simp only [f0, Option.bind_some, h.hc.2.2.2.2.2.2.2.1, shl_tab nr (by omega), if_neg e6, bc_f, hM.1.hm.2.2.2.1, inn _ i (by omega), c_knownSet hC (show i < 2147483648 by omega), if_neg z1, nI_1, if_true]
        by_cases q : (mk (bkB pg x) np &&& (sKS w nr i ^^^ -1)) = 0
        · simp only [if_pos q]
          by_cases q2 : a = -1
          · simp only [if_pos q2]
            exact ⟨_, _, rfl, rfl, rfl, rfl⟩
          · simp only [if_neg q2]
            by_cases q3 : BCf a ≤ BCf (nI i)
            · simp only [if_pos q3]; exact ⟨_, _, rfl, rfl, rfl, rfl⟩
            · simp only [if_neg q3]; exact ⟨_, _, rfl, rfl, rfl, rfl⟩
        · simp only [if_neg q, ite_self]
          exact ⟨_, _, rfl, rfl, rfl, rfl⟩
      · rintro ⟨a, j⟩ c ⟨rfl, e1⟩
        simp only at e1
        subst e1
        unfold fX0_fewestWhoKnow_l15 fX10_who_l37
        simp only [f0, Option.bind_some, h.hc.2.2.2.2.2.2.2.1, shl_tab nr (by omega), hM.1.hm.2.2.2.1, if_pos (Int32.le_refl _)]
        exact ⟨_, _, rfl, rfl, rfl⟩
    obtain ⟨b, d, k1, k2, rfl⟩ := key
    rw [k1, k2]
    exact WV.t h rfl rfl
  · have hin : fX10_isIn (Int32.toInt64 x) 0 4 (sI σ 310 0 0) = some 0 := isInF (a := 0) (b := 4) hx (by omega) (by omega)
    rw [isBook_f hx, hin]
    exact WV.t h rfl rfl
theorem pop_b : ∀ s, s < 64 → ∀ r, r < 6 → s / 2 ^ r % 2 = 1 → 1 ≤ popN 12 s ∧ popN 12 s ≤ 6 := by decide +kernel
theorem others_set {s r : Nat} (hs : s < 64) (hr : r < 6) (hb : s / 2 ^ r % 2 = 1) : ∃ n, n < 7 ∧ BCf (nI s) - 1 = nI n := by
  have := pop_b s hs r hr hb
  rw [bc_tab s (by omega), show (1 : Int32) = nI 1 from rfl, pk_sub (by omega)]
  exact ⟨_, by omega, rfl⟩
theorem C_melt (hC : CC σ np nr W H ru pg rd lw w S jl acts pw) {r p : Nat} (hr : r < nr) (hp : p < np) (c n : Int32) : ∃ σ', fX8_meltBy 11 89 (nI r) (nI p) c n σ = some (sMelt lw ru pg rd w r p c n, σ') ∧ Sm sCq σ σ' := by
  obtain ⟨τ, k1, k2⟩ := c_meltBy hC.g hC.hc hC.rf.wr hC.rf.sr89 hC.sc hC.hl (scr_SB SB89) hr hp c n
  exact ⟨τ, k1, k2.cq⟩
theorem M_melt (hM : MM τ np nr W H ru pg rd nl F lw w S jl acts pw) (g : HB np nr W H ru pg rd) (hB : WU D w) (hD : D < 2147483648) {r p c n : Nat} (hr : r < nr) (hp : p < np) (hc : c < 30) (hn : n < 7) : ∃ τ', fX10_meltBy 310 323 (nI r) (nI p) (nI c) (nI n) τ = some (sMelt lw ru pg rd w r p (nI c) (nI n), τ') ∧ Sm sMq τ τ' ∧ MM τ' np nr W H ru pg rd nl F lw w S jl acts pw := by
  obtain ⟨τ2, j1, j2, j3⟩ := m_meltBy (c := c) (n := n) g hM.1 (Or.inl rfl) hM.2.1 hB.wb hD hr hp hc hn
  exact ⟨τ2, j1, j2.mq, hM.mq j2.mq j3⟩
/-- what a set melts -/
def sSet (lw : Option LF) (nr : Nat) (ru pg rd w : Nat → Int32) (p : Nat) (c : Int32) (set : Nat) : Int32 := fo (fun r acc => if set / 2 ^ r % 2 = 1 then acc + sMelt lw ru pg rd w r p c (BCf (nI set) - 1) else acc) 0 nr
theorem C_set (hC : CC σ np nr W H ru pg rd lw w S jl acts pw) {p set : Nat} (hp : p < np) (hs : set < 64) (c : Int32) : ∃ σ', fX0_meltOfSet 13 89 (nI p) c (nI set) σ = some (sSet lw nr ru pg rd w p c set, σ') ∧ Sm sCq σ σ' := by
  have g := hC.g
  have g2 := g.2.1
  unfold fX0_meltOfSet fX0_meltOfSet_w15
  simp only [bc_f, Option.bind_some]
  have key : ∃ x, wh (fun a : Int32 × Int32 × Mm => fX0_meltOfSet_l15 13 89 (nI p) c (nI set) (BCf (nI set) - 1) a.1 a.2.1 a.2.2) BIG (0, 0, σ) = some x ∧ (x.1 = sSet lw nr ru pg rd w p c set ∧ Sm sCq σ x.2) := by
    refine wh_inv (fun i a => a.1 = fo (fun r acc => if set / 2 ^ r % 2 = 1 then acc + sMelt lw ru pg rd w r p c (BCf (nI set) - 1) else acc) 0 i ∧ a.2.1 = nI i ∧ Sm sCq σ a.2.2) _ nr BIG 0 _ (Nat.zero_le _) (by unfold BIG; omega) ⟨rfl, rfl, Sm.rf⟩ ?_ ?_
    · rintro i ⟨acc, j, s⟩ hi ⟨e1, e2, e3⟩
      simp only at e1 e2 e3
      subst e2
      left
      have hC' := hC.cq e3
      obtain ⟨f0, f1, -⟩ := fin0 hC'.rf
      have e6 : ¬ nI nr ≤ nI i := fun z => absurd ((leT (by omega) (by omega)).mp z) (by omega)
      obtain ⟨s2, k1, k2⟩ := C_melt hC' hi hp c (BCf (nI set) - 1)
      unfold fX0_meltOfSet_l15 fX0_meltOfSet_b57
      simp only [f0, f1, Option.bind_some, hC'.hc.2.2.2.2.2.2.2.1, if_neg e6, k1, bnd2_some, nI_1]
      by_cases q : set / 2 ^ i % 2 = 1
      · rw [if_pos ((bit1 (by omega) (by omega)).mpr q)]
        exact ⟨_, rfl, by dsimp only; rw [fo_succ, if_pos q, e1], rfl, e3.tr k2⟩
      · rw [if_neg (fun z => q ((bit1 (by omega) (by omega)).mp z))]
        exact ⟨_, rfl, by dsimp only; rw [fo_succ, if_neg q, e1], rfl, e3⟩
    · rintro ⟨acc, j, s⟩ ⟨e1, e2, e3⟩
      simp only at e1 e2 e3
      subst e2
      have hC' := hC.cq e3
      obtain ⟨f0, f1, -⟩ := fin0 hC'.rf
      unfold fX0_meltOfSet_l15
      simp only [f0, Option.bind_some, hC'.hc.2.2.2.2.2.2.2.1, if_pos (Int32.le_refl _)]
      exact ⟨_, rfl, e1, e3⟩
  obtain ⟨⟨x1, x2⟩, k1, k2, k3⟩ := key
  simp only at k2 k3
  rw [k1]
  exact ⟨x2, by rw [Option.bind_some, k2], k3⟩
theorem M_set (hM : MM τ np nr W H ru pg rd nl F lw w S jl acts pw) (g : HB np nr W H ru pg rd) (hB : WU D w) (hD : D < 2147483648) {p c set : Nat} (hp : p < np) (hc : c < 30) (hs : set < 64) (a3 a4 a5 : Int32) : ∃ τ', fX10_breathed_w75 310 (nI p) (nI c) a3 a4 a5 (nI set) 0 0 τ = some (sSet lw nr ru pg rd w p (nI c) set, τ') ∧ Sm sMq τ τ' ∧ MM τ' np nr W H ru pg rd nl F lw w S jl acts pw := by
  have g2 := g.2.1
  unfold fX10_breathed_w75
  have key : ∃ x, wh (fun a : Int32 × Int32 × Mm => fX10_breathed_l75 310 (nI p) (nI c) a3 a4 a5 (nI set) a.1 a.2.1 a.2.2) BIG (0, 0, τ) = some x ∧ (x.1 = sSet lw nr ru pg rd w p (nI c) set ∧ Sm sMq τ x.2 ∧ MM x.2 np nr W H ru pg rd nl F lw w S jl acts pw) := by
    refine wh_inv (fun i a => a.1 = fo (fun r acc => if set / 2 ^ r % 2 = 1 then acc + sMelt lw ru pg rd w r p (nI c) (BCf (nI set) - 1) else acc) 0 i ∧ a.2.1 = nI i ∧ Sm sMq τ a.2.2 ∧ MM a.2.2 np nr W H ru pg rd nl F lw w S jl acts pw) _ nr BIG 0 _ (Nat.zero_le _) (by unfold BIG; omega) ⟨rfl, rfl, Sm.rf, hM⟩ ?_ ?_
    · rintro i ⟨acc, j, s⟩ hi ⟨e1, e2, e3, e4⟩
      simp only at e1 e2 e3 e4
      subst e2
      left
      have e6 : ¬ nI nr ≤ nI i := fun z => absurd ((leT (by omega) (by omega)).mp z) (by omega)
      unfold fX10_breathed_l75 fX10_breathed_b119
      simp only [e4.1.hm.2.2.2.1, if_neg e6, m_has (show set < 2147483648 by omega) (show i < 31 by omega), Option.bind_some, e4.r33, bc_f, nI_1]
      by_cases q : set / 2 ^ i % 2 = 1
      · obtain ⟨n, hn, en⟩ := others_set hs (show i < 6 by omega) q
        obtain ⟨s2, k1, k2, k3⟩ := M_melt (c := c) (n := n) e4 g hB hD hi hp hc hn
        simp only [if_pos q, if_neg z1]
        rw [en, k1, bnd2_some]
        exact ⟨_, rfl, by dsimp only; rw [fo_succ, if_pos q, e1, en], rfl, e3.tr k2, k3⟩
      · simp only [if_neg q, if_true, Int32.add_zero]
        exact ⟨_, rfl, by dsimp only; rw [fo_succ, if_neg q, e1], rfl, e3, e4⟩
    · rintro ⟨acc, j, s⟩ ⟨e1, e2, e3, e4⟩
      simp only at e1 e2 e3 e4
      subst e2
      unfold fX10_breathed_l75
      simp only [e4.1.hm.2.2.2.1, if_pos (Int32.le_refl _)]
      exact ⟨_, rfl, e1, e3, e4⟩
  obtain ⟨⟨x1, x2⟩, k1, k2, k3, k4⟩ := key
  simp only at k2 k3 k4
  rw [k1]
  exact ⟨x2, by rw [k2], k3, k4⟩
theorem c099_t {α : Type} {y : Int32} {A B : α} (hy : ∃ k, 0 ≤ k ∧ k ≤ 99 ∧ y = nI k) : (if y < 0 then A else if 99 < y then A else B) = B := by
  obtain ⟨k, -, hk, rfl⟩ := hy
  rw [if_neg (nI_pos (by omega)), if_neg (show ¬ (99 : Int32) < nI k from fun z => absurd ((ltT (a := 99) (by omega) (by omega)).mp z) (by omega))]
theorem c099_f {α : Type} {y : Int32} {A B : α} (hy : ¬ ∃ k, 0 ≤ k ∧ k ≤ 99 ∧ y = nI k) : (if y < 0 then A else if 99 < y then A else B) = A := by
  rcases i32_out (N := 100) (by omega) (nin2 hy) with h | ⟨h, h2⟩
  · rw [if_pos h]
  · rw [if_neg h, if_pos (Int32.lt_of_lt_of_le (by decide) h2)]
theorem Q_breathed (h : CM np nr W H ru pg rd nl F lw D w S jl acts pw σ) (hD : D < 2147483000) (x y z u : Int32) : WQ np nr W H ru pg rd nl F lw σ (fX9_breathed 0 x y z u σ) (fX10_breathed 310 x y z u) := by
  have g := h.g
  have g1 := g.1
  have g2 := g.2.1
  have hWH := WH_lt g
  have p2 := pow6 g2
  refine WQ.two (m' := fun s => (fX10_isPage 310 x s).bind fun vk1 => if vk1 = 0 then some ((-1), s) else (fX10_isCell 310 y s).bind fun vk3 => if vk3 = 0 then some ((-1), s) else (gR s 310 33).bind fun r5 => if ixB (2 * x) (ln r5) = true then if (gI s r5 (Int32.toNatClampNeg (2 * x))) = 0 then some ((-1), s) else (fX10_isIn (Int32.toInt64 z) 0 99 s).bind fun vk8 => if vk8 = 0 then some ((-1), s) else if (-1) ≤ u then (fX10_breathed_w58 310 x y z u 0 0 s).bind (Sum.elim (fun eo210 => some eo210) (fun eo211 => (fun xo21_5 so21 => if u = (-1) then some (xo21_5, so21) else some ((-1), so21)) eo211.1 eo211.2)) else some ((-1), s) else none) h (fun s => rfl) (fun τ hM => ?_)
  unfold fX9_breathed
  by_cases hx : ∃ p, p < np ∧ x = nI p
  · obtain ⟨p, hp, rfl⟩ := hx
    have le0 := le0_eq h.wu (show 2 * p < 109 by omega)
    rw [c_isThere h.rf g h.hc h.sc hp, m_isPage g hM.1.hm hp]
    simp only [Option.bind_some, if_neg z1, h.rf.hall]
    by_cases hy : ∃ c, c < W * H ∧ y = nI c
    · obtain ⟨c, hc, rfl⟩ := hy
      simp only [c_hasCell g h.hc hc, m_isCell g hM.1.hm hc, Option.bind_some, if_neg z1, hM.r33, i2p, ln323, ixT (show 2 * p < 351 by omega) (by omega), if_true, clT (show 2 * p < 2147483648 by omega), hM.2.1 (2 * p) (by omega)]
      by_cases q : w (2 * p) = 0
      · simp only [if_pos (le0.mpr q), if_pos q, if_true]
        exact ⟨_, _, _, rfl, rfl, Sm.rf, Sm.rf, hM.1⟩
      · simp only [if_neg (fun z => q (le0.mp z)), if_neg q, if_neg z1]
        rcases in4 (x := z) (n := 99) with hz | hz
        · have hin : fX10_isIn (Int32.toInt64 z) 0 99 τ = some 1 := isInT (a := 0) (b := 99) hz (by omega)
          rw [c099_t hz, hin]
          simp only [Option.bind_some, if_neg z1]
          by_cases hu : -1 ≤ u
          · simp only [if_pos hu]
            have key : ∃ b d, fX9_breathed_w43 0 (nI p) (nI c) z u 0 0 σ = some b ∧ fX10_breathed_w58 310 (nI p) (nI c) z u 0 0 τ = some d ∧ ((∃ v s t, b = .inl (v, s) ∧ d = .inl (v, t) ∧ Sm sCq σ s ∧ Sm sMq τ t ∧ ME t np nr W H ru pg rd nl F lw) ∨ ∃ v s t, b = .inr (v, s) ∧ d = .inr (v, t) ∧ Sm sCq σ s ∧ Sm sMq τ t ∧ ME t np nr W H ru pg rd nl F lw) := by
              unfold fX9_breathed_w43 fX10_breathed_w58
              refine wh_two (fun i a c => a.1 = c.1 ∧ a.2.1 = nI i ∧ c.2.1 = nI i ∧ Sm sCq σ a.2.2 ∧ Sm sMq τ c.2.2 ∧ MM c.2.2 np nr W H ru pg rd nl F lw w S jl acts pw) _ (2 ^ nr) BIG 0 _ _ (Nat.zero_le _) (by unfold BIG; omega) ⟨rfl, rfl, rfl, Sm.rf, Sm.rf, hM⟩ ?_ ?_
              · rintro i ⟨a, j, s⟩ ⟨a', j', t⟩ hi ⟨e1, e2, e3, e4, e5, e6⟩
                simp only at e1 e2 e3 e4 e5 e6
                subst e1 e2 e3
                have hC' := h.1.cq e4
                obtain ⟨s2, k1, k2⟩ := C_set hC' (set := i) hp (by omega) (nI c)
                obtain ⟨t2, l1, l2, l3⟩ := M_set (c := c) (set := i) e6 g h.wu (by omega) hp (by omega) (by omega) z u a
                have e7 : ¬ nI (2 ^ nr) ≤ nI i := fun z => absurd ((leT (by omega) (by omega)).mp z) (by omega)
                unfold fX9_breathed_l43 fX9_breathed_b89 fX10_breathed_l58 fX10_breathed_b150
                simp only [hC'.rf.hall, hC'.rf.fin, hC'.rf.now, Option.bind_some, hC'.hc.2.2.2.2.2.2.2.1, shl_tab nr (by omega), if_neg e7, k1, bnd2_some, e6.1.hm.2.2.2.1, l1, nI_1]
                by_cases q2 : sSet lw nr ru pg rd w p (nI c) i = z
                · simp only [if_pos q2]
                  by_cases q3 : a = u
                  · simp only [if_pos q3]
                    right
                    exact ⟨_, _, rfl, rfl, Or.inl ⟨_, _, _, rfl, rfl, e4.tr k2, e5.tr l2, l3.1⟩⟩
                  · simp only [if_neg q3]
                    left
                    exact ⟨_, _, rfl, rfl, rfl, rfl, rfl, e4.tr k2, e5.tr l2, l3⟩
                · simp only [if_neg q2]
                  left
                  exact ⟨_, _, rfl, rfl, rfl, rfl, rfl, e4.tr k2, e5.tr l2, l3⟩
              · rintro ⟨a, j, s⟩ ⟨a', j', t⟩ ⟨e1, e2, e3, e4, e5, e6⟩
                simp only at e1 e2 e3 e4 e5 e6
                subst e1 e2 e3
                have hC' := h.1.cq e4
                unfold fX9_breathed_l43 fX10_breathed_l58
                simp only [hC'.rf.hall, Option.bind_some, hC'.hc.2.2.2.2.2.2.2.1, shl_tab nr (by omega), e6.1.hm.2.2.2.1, if_pos (Int32.le_refl _)]
                exact ⟨_, _, rfl, rfl, Or.inr ⟨_, _, _, rfl, rfl, e4, e5, e6.1⟩⟩
            obtain ⟨b, d, k1, k2, k3⟩ := key
            rw [k1, k2]
            rcases k3 with ⟨v, s, t, rfl, rfl, j1, j2, j3⟩ | ⟨v, s, t, rfl, rfl, j1, j2, j3⟩
            · exact ⟨_, _, _, rfl, rfl, j1, j2, j3⟩
            · simp only [Option.bind_some, Sum.elim_inr]
              by_cases q4 : u = -1
              · simp only [if_pos q4]; exact ⟨_, _, _, rfl, rfl, j1, j2, j3⟩
              · simp only [if_neg q4]; exact ⟨_, _, _, rfl, rfl, j1, j2, j3⟩
          · simp only [if_neg hu]
            exact ⟨_, _, _, rfl, rfl, Sm.rf, Sm.rf, hM.1⟩
        · have hin : fX10_isIn (Int32.toInt64 z) 0 99 τ = some 0 := isInF (a := 0) (b := 99) hz (by omega) (by omega)
          rw [c099_f hz, hin]
          exact ⟨_, _, _, rfl, rfl, Sm.rf, Sm.rf, hM.1⟩
    · simp only [c_hasCell_out g h.hc hy, m_isCell_out g hM.1.hm hy, Option.bind_some, if_true, ite_self]
      exact ⟨_, _, _, rfl, rfl, Sm.rf, Sm.rf, hM.1⟩
  · rw [c_isThere_out h.rf g h.hc hx, m_isPage_out g hM.1.hm hx]
    exact ⟨_, _, _, rfl, rfl, Sm.rf, Sm.rf, hM.1⟩
/-! nights apart -/
theorem C_apart (hC : CC σ np nr W H ru pg rd lw w S jl acts pw) : ∃ σ', fX6_takeFrom 94 89 σ = some σ' ∧ Sm sCq σ σ' ∧ SC σ' 94 w := by
  obtain ⟨s, k1, k2, k3⟩ := c_takeFrom (d := 94) (s := 89) hC.rf.sr94 hC.rf.sr89 hC.sc (by omega)
  refine ⟨s, k1, k2.mono (fun c k hc => ?_), k3⟩
  unfold sCq at hc; unfold sS
  simp only [Bool.or_eq_false_iff, Bool.and_eq_false_imp, decide_eq_true_eq, decide_eq_false_iff_not] at hc ⊢
  omega
theorem SB94 : SB 94 := Or.inr ⟨by omega, by omega⟩
theorem C_fall (hC : CC σ np nr W H ru pg rd lw w S jl acts pw) (h94 : SC σ 94 v) : ∃ σ', fX8_fallNight 11 94 σ = some (sNightL ru np v, σ') ∧ Sm sCq σ σ' ∧ SC σ' 94 (sNight ru np v) := by
  obtain ⟨s, k1, k2, k3⟩ := c_fallNight hC.g hC.hc hC.rf.wr hC.rf.sr94 h94 SB94
  refine ⟨s, k1, k2.mono (fun c k hc => ?_), k3⟩
  unfold sCq at hc; unfold sS
  simp only [Bool.or_eq_false_iff, Bool.and_eq_false_imp, decide_eq_true_eq, decide_eq_false_iff_not] at hc ⊢
  omega
theorem ln324 : ln 324 = 351 := by decide +kernel
theorem sM_mq {a b : Mm} (h : Sm (sM 324) a b) : Sm sMq a b := h.mono (fun c k hc => by
  unfold sMq at hc; unfold sM
  simp only [Bool.or_eq_false_iff, beq_eq_false_iff_ne, ne_eq] at hc ⊢
  exact hc.1.1.1.1.1.2)
theorem M_trial (hM : MM τ np nr W H ru pg rd nl F lw w S jl acts pw) : ∃ τ', fX10_copy 323 324 τ = some τ' ∧ Sm sMq τ τ' ∧ MM τ' np nr W H ru pg rd nl F lw w S jl acts pw ∧ MW τ' 324 w ∧ MLg τ' 324 (min S 60) (mlg S 0 jl) := by
  obtain ⟨t, k1, k2, k3⟩ := m_copy (σ := τ) ln323 ln324 (by omega)
  have := ((RowAt.of hM.2.1 hM.2.2.1).cp (σ' := t) (c' := 324) (b' := 0) (fun k hk => by rw [Nat.zero_add]; exact k3 k hk)).mw
  exact ⟨t, k1, sM_mq k2, hM.mq (sM_mq k2) (hM.1.sm k2 (fun c k hc => sM_core (by omega) c k hc)), this.1, this.2⟩
theorem M_fall {cnt : Nat} {e : Nat → Nat → Int32} (hM : MM τ np nr W H ru pg rd nl F lw w S jl acts pw) (g : HB np nr W H ru pg rd) (h3 : MW τ 324 v) (h4 : MLg τ 324 cnt e) (hB : WU D v) (hZ : WZ np nr v) : ∃ τ', fX10_goNight 310 324 τ = some τ' ∧ Sm sMq τ τ' ∧ MM τ' np nr W H ru pg rd nl F lw w S jl acts pw ∧ MW τ' 324 (sNight ru np v) ∧ ∃ cnt e, MLg τ' 324 cnt e := by
  obtain ⟨t, k1, k2, k3, k4⟩ := m_goNight g hM.1 (Or.inr rfl) h3 h4 hB hZ
  exact ⟨t, k1, sM_mq k2, hM.mq (sM_mq k2) (hM.1.sm k2 (fun c k hc => sM_core (by omega) c k hc)), k3, _, _, k4⟩
theorem M_there {m : Nat} (g : HB np nr W H ru pg rd) (h : HM τ np nr W H ru pg rd) (hl : ln m = 351) (hm : MW τ m v) : fX10_thereIn 310 m τ = some (mk (fun p => decide (¬ v (2 * p) ≤ 0)) np) := by
  have g1 := g.1
  unfold fX10_thereIn fX10_thereIn_w4
  have key : wh (fun a : Int32 × Int32 => fX10_thereIn_l4 310 m a.1 a.2 τ) BIG (0, 0) = some (mk (fun p => decide (¬ v (2 * p) ≤ 0)) np) := by
    refine wh_run (fun i => (mk (fun p => decide (¬ v (2 * p) ≤ 0)) i, nI i)) np rfl (BIG_lt (by omega)) (fun i hi => ?_) ?_
    · unfold fX10_thereIn_l4 fX10_thereIn_b28
      have e6 : ¬ nI np ≤ nI i := fun z => absurd ((leT (by omega) (by omega)).mp z) (by omega)
      rw [mk_succ]
      simp only [h.2.2.1, if_neg e6, i2p, hl, ixT (show 2 * i < 351 by omega) (by omega), if_true, clT (show 2 * i < 2147483648 by omega), hm (2 * i) (by omega), nI_1]
      by_cases q : v (2 * i) ≤ 0
      · rw [if_pos q, if_neg (by simpa using q), Int32.or_zero]
      · rw [if_neg q, if_pos (by simpa using q)]
    · unfold fX10_thereIn_l4
      simp only [h.2.2.1, if_pos (Int32.le_refl _)]
  rw [key]; rfl
theorem M_lost {m : Nat} (g : HB np nr W H ru pg rd) (h : HM τ np nr W H ru pg rd) (hl : ln m = 351) (hm : MW τ m v) : fX10_lostIn 310 m τ = some (nI (cntB (fun p => decide (v (2 * p) = 0)) np)) := by
  have g1 := g.1
  unfold fX10_lostIn fX10_lostIn_w4
  have key : wh (fun a : Int32 × Int32 => fX10_lostIn_l4 310 m a.1 a.2 τ) BIG (0, 0) = some (nI (cntB (fun p => decide (v (2 * p) = 0)) np)) := by
    refine wh_run (fun i => (nI (cntB (fun p => decide (v (2 * p) = 0)) i), nI i)) np rfl (BIG_lt (by omega)) (fun i hi => ?_) ?_
    · unfold fX10_lostIn_l4 fX10_lostIn_b26
      have e6 : ¬ nI np ≤ nI i := fun z => absurd ((leT (by omega) (by omega)).mp z) (by omega)
      rw [cntB_s]
      simp only [h.2.2.1, if_neg e6, i2p, hl, ixT (show 2 * i < 351 by omega) (by omega), if_true, clT (show 2 * i < 2147483648 by omega), hm (2 * i) (by omega), nI_1, Int32.add_zero]
      by_cases q : v (2 * i) = 0
      · rw [if_pos q, if_pos (by simpa using q)]
      · rw [if_neg q, if_neg (by simpa using q)]
    · unfold fX10_lostIn_l4
      simp only [h.2.2.1, if_pos (Int32.le_refl _)]
  rw [key]; rfl
theorem cntB_not (P Q : Nat → Bool) (n : Nat) (h : ∀ p, p < n → Q p = !P p) : cntB P n + cntB Q n = n := by
  induction n with
  | zero => rfl
  | succ n ih =>
    have := ih (fun p hp => h p (by omega))
    rw [cntB_s, cntB_s, h n (by omega)]
    cases hP : P n <;> simp <;> omega
theorem lost_pages (hB : WU D v) (h1 : np ≤ 12) : nI np - nI (cntB (fun p => decide (¬ v (2 * p) ≤ 0)) np) = nI (cntB (fun p => decide (v (2 * p) = 0)) np) := by
  have := cntB_not (fun p => decide (¬ v (2 * p) ≤ 0)) (fun p => decide (v (2 * p) = 0)) np (fun p hp => by
    have := le0_eq hB (show 2 * p < 109 by omega)
    by_cases q : v (2 * p) = 0
    · simp [q, this.mpr q]
    · simp [q]; exact Int32.not_le.mp (fun z => q (this.mp z)))
  rw [pk_sub (by omega)]
  congr 1
  omega
theorem Q_left (h : CM np nr W H ru pg rd nl F lw D w S jl acts pw σ) (hD : D < 2147483000) (hnp : 0 < np) (x : Int32) : WQ np nr W H ru pg rd nl F lw σ (fX9_left 0 x σ) (fX10_left 310 x) := by
  have g := h.g
  have g1 := g.1
  refine WQ.two (m' := fun s => if (gI s 310 27) = 0 then some ((-1), s) else (fX10_isIn (Int32.toInt64 x) 0 99 s).bind fun vk2 => if vk2 = 0 then some ((-1), s) else (gR s 310 33).bind fun r4 => (gR s 310 34).bind fun r5 => (fX10_copy r4 r5 s).bind fun sk6 => (fX10_left_w39 310 x 0 sk6).bind (fun o10 => (fun so10 => (gR so10 310 34).bind fun r11 => (fX10_thereIn 310 r11 so10).bind fun vk12 => some (vk12, so10)) o10)) h (fun s => rfl) (fun τ hM => ?_)
  unfold fX9_left
  simp only [h.rf.hall, Option.bind_some, c_isOpen g h.hc, if_pos hnp, if_neg z1, hM.1.hm.2.2.1, if_neg (nI_ne0 hnp (show np < 2147483648 by omega))]
  rcases in4 (x := x) (n := 99) with hx | hx
  · have hin : fX10_isIn (Int32.toInt64 x) 0 99 τ = some 1 := isInT (a := 0) (b := 99) hx (by omega)
    rw [hin]
    obtain ⟨n, -, hn, rfl⟩ := hx
    rw [if_neg (nI_pos (show n < 2147483648 by omega)), if_pos (show nI n ≤ 99 from (leT (b := 99) (by omega) (by omega)).mpr hn)]
    obtain ⟨s1, k1, k2, k3⟩ := C_apart h.1
    obtain ⟨t1, l1, l2, l3, l4, l5⟩ := M_trial hM
    simp only [Option.bind_some, if_neg z1, h.rf.apart, h.rf.now, k1, hM.r33, hM.r34, l1]
    have key : ∃ b d, fX9_left_w35 0 (nI n) 0 s1 = some b ∧ fX10_left_w39 310 (nI n) 0 t1 = some d ∧ ∃ v, Sm sCq σ b ∧ Sm sMq τ d ∧ MM d np nr W H ru pg rd nl F lw w S jl acts pw ∧ SC b 94 v ∧ MW d 324 v := by
      unfold fX9_left_w35 fX10_left_w39
      refine wh_two (fun i a c => a.1 = nI i ∧ c.1 = nI i ∧ ∃ v, Sm sCq σ a.2 ∧ Sm sMq τ c.2 ∧ MM c.2 np nr W H ru pg rd nl F lw w S jl acts pw ∧ SC a.2 94 v ∧ MW c.2 324 v ∧ (∃ cnt e, MLg c.2 324 cnt e) ∧ WU (D + i) v ∧ WZ np nr v) _ n BIG 0 _ _ (Nat.zero_le _) (by unfold BIG; omega) ⟨rfl, rfl, w, k2, l2, l3, k3, l4, ⟨_, _, l5⟩, h.wu, h.wz⟩ ?_ ?_
      · rintro i ⟨j, s⟩ ⟨j', t⟩ hi ⟨e1, e2, v, e3, e4, e5, e6, e7, ⟨cnt, e, e8⟩, e9, e10⟩
        simp only at e1 e2 e3 e4 e5 e6 e7 e8
        subst e1 e2
        left
        have hC' := h.1.cq e3
        obtain ⟨s2, q1, q2, q3⟩ := C_fall hC' e6
        obtain ⟨t2, o1, o2, o3, o4, o5⟩ := M_fall e5 g e7 e8 e9 e10
        have e11 : ¬ nI n ≤ nI i := fun z => absurd ((leT (by omega) (by omega)).mp z) (by omega)
        unfold fX9_left_l35 fX10_left_l39
        simp only [if_neg e11, hC'.rf.win, hC'.rf.apart, Option.bind_some, q1, bnd2_some, e5.r34, o1, nI_1]
        exact ⟨_, _, rfl, rfl, rfl, rfl, _, e3.tr q2, e4.tr o2, o3, q3, o4, o5, e9.night g, e10.night g1⟩
      · rintro ⟨j, s⟩ ⟨j', t⟩ ⟨e1, e2, v, e3, e4, e5, e6, e7, e8⟩
        simp only at e1 e2 e3 e4 e5 e6 e7
        subst e1 e2
        unfold fX9_left_l35 fX10_left_l39
        simp only [if_pos (Int32.le_refl _)]
        exact ⟨_, _, rfl, rfl, v, e3, e4, e5, e6, e7⟩
    obtain ⟨b, d, q1, q2, v, q3, q4, q5, q6, q7⟩ := key
    have hC' := h.1.cq q3
    rw [q1, q2]
    simp only [Option.bind_some, hC'.rf.win, hC'.rf.apart, q5.r34, c_pagesThere g hC'.hc hC'.rf.wr hC'.rf.sr94 q6, M_there g q5.1.hm ln324 q7]
    exact ⟨_, _, _, rfl, rfl, q3, q4, q5.1⟩
  · have hin : fX10_isIn (Int32.toInt64 x) 0 99 τ = some 0 := isInF (a := 0) (b := 99) hx (by omega) (by omega)
    rw [hin]
    rcases i32_out (N := 100) (by omega) (nin2 hx) with h1 | ⟨h1, h2⟩
    · rw [if_pos h1]
      exact ⟨_, _, _, rfl, rfl, Sm.rf, Sm.rf, hM.1⟩
    · rw [if_neg h1, if_neg (fun z => absurd (Int32.le_trans h2 z) (by decide))]
      exact ⟨_, _, _, rfl, rfl, Sm.rf, Sm.rf, hM.1⟩
theorem Q_last (h : CM np nr W H ru pg rd nl F lw D w S jl acts pw σ) (hD : D < 2147483000) (x : Int32) : WQ np nr W H ru pg rd nl F lw σ (fX9_last 0 x σ) (fX10_last 310 x) := by
  have g := h.g
  have g1 := g.1
  refine WQ.two (m' := fun s => (fX10_isPage 310 x s).bind fun vk1 => if vk1 = 0 then some ((-1), s) else (gR s 310 33).bind fun r3 => (gR s 310 34).bind fun r4 => (fX10_copy r3 r4 s).bind fun sk5 => (fX10_last_w28 310 x 0 sk5).bind (fun o11 => some o11)) h (fun s => rfl) (fun τ hM => ?_)
  unfold fX9_last
  rw [h.rf.hall, Option.bind_some]
  by_cases hx : ∃ p, p < np ∧ x = nI p
  · obtain ⟨p, hp, rfl⟩ := hx
    obtain ⟨s1, k1, k2, k3⟩ := C_apart h.1
    obtain ⟨t1, l1, l2, l3, l4, l5⟩ := M_trial hM
    simp only [c_hasPage g h.hc hp, m_isPage g hM.1.hm hp, Option.bind_some, if_neg z1, h.rf.apart, h.rf.now, k1, hM.r33, hM.r34, l1]
    have key : ∃ b d, fX9_last_w26 0 (nI p) 0 s1 = some b ∧ fX10_last_w28 310 (nI p) 0 t1 = some d ∧ b.1 = d.1 ∧ Sm sCq σ b.2 ∧ Sm sMq τ d.2 ∧ ME d.2 np nr W H ru pg rd nl F lw := by
      unfold fX9_last_w26 fX10_last_w28
      refine wh_two (fun i a c => a.1 = nI i ∧ c.1 = nI i ∧ ∃ v, Sm sCq σ a.2 ∧ Sm sMq τ c.2 ∧ MM c.2 np nr W H ru pg rd nl F lw w S jl acts pw ∧ SC a.2 94 v ∧ MW c.2 324 v ∧ (∃ cnt e, MLg c.2 324 cnt e) ∧ WU (D + i) v ∧ WZ np nr v) _ 100 BIG 0 _ _ (Nat.zero_le _) (by unfold BIG; omega) ⟨rfl, rfl, w, k2, l2, l3, k3, l4, ⟨_, _, l5⟩, h.wu, h.wz⟩ ?_ ?_
      · rintro i ⟨j, s⟩ ⟨j', t⟩ hi ⟨e1, e2, v, e3, e4, e5, e6, e7, ⟨cnt, e, e8⟩, e9, e10⟩
        simp only at e1 e2 e3 e4 e5 e6 e7 e8
        subst e1 e2
        have hC' := h.1.cq e3
        obtain ⟨s2, q1, q2, q3⟩ := C_fall hC' e6
        obtain ⟨t2, o1, o2, o3, o4, o5⟩ := M_fall e5 g e7 e8 e9 e10
        have e11 : ¬ 99 < nI i := fun z => absurd ((ltT (a := 99) (by omega) (by omega)).mp z) (by omega)
        have c94 := hC'.rf.sr94
        unfold fX9_last_l26 fX10_last_l28
        simp only [if_neg e11, hC'.rf.win, hC'.rf.apart, c94.1, c94.2.2.2.2.1, ixT (show p < 12 by omega) (by omega), if_true, clT (show p < 2147483648 by omega), e6.1 p (by omega), Option.bind_some, q1, bnd2_some, e5.r34, i2p, ln324, ixT (show 2 * p < 351 by omega) (by omega), clT (show 2 * p < 2147483648 by omega), e7 (2 * p) (by omega), o1, nI_1]
        by_cases q : v (2 * p) = 0
        · simp only [if_pos q]
          right
          exact ⟨_, _, rfl, rfl, rfl, e3, e4, e5.1⟩
        · simp only [if_neg q]
          left
          exact ⟨_, _, rfl, rfl, rfl, rfl, _, e3.tr q2, e4.tr o2, o3, q3, o4, o5, e9.night g, e10.night g1⟩
      · rintro ⟨j, s⟩ ⟨j', t⟩ ⟨e1, e2, v, e3, e4, e5, e6, e7, e8⟩
        simp only at e1 e2 e3 e4 e5 e6 e7
        subst e1 e2
        unfold fX9_last_l26 fX10_last_l28
        simp only [show (99 : Int32) < nI 100 from (ltT (a := 99) (by omega) (by omega)).mpr (by omega), if_true]
        exact ⟨_, _, rfl, rfl, rfl, e3, e4, e5.1⟩
    obtain ⟨⟨b1, b2⟩, ⟨d1, d2⟩, q1, q2, q3, q4, q5, q6⟩ := key
    simp only at q3 q4 q5 q6
    subst q3
    rw [q1, q2]
    exact ⟨_, _, _, rfl, rfl, q4, q5, q6⟩
  · simp only [c_hasPage_out g h.hc hx, m_isPage_out g hM.1.hm hx, Option.bind_some, if_true]
    exact ⟨_, _, _, rfl, rfl, Sm.rf, Sm.rf, hM.1⟩
end Sets
