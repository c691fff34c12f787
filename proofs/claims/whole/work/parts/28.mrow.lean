/-! the model's rows: w the state (places 0 .. 109), e the log, oldest first -/
def MW (σ : Mm) (m : Nat) (w : Nat → Int32) : Prop := ∀ k, k < 110 → gI σ m k = w k
def MLg (σ : Mm) (m cnt : Nat) (e : Nat → Nat → Int32) : Prop := cnt ≤ 60 ∧ gI σ m 110 = nI cnt ∧ ∀ i j, i < cnt → j < 4 → gI σ m (111 + 4 * i + j) = e i j
def sM (m c _k : Nat) : Bool := c == m
def row4 (a b c d : Int32) (j : Nat) : Int32 := if j = 0 then a else if j = 1 then b else if j = 2 then c else d
def sLogN (cnt : Nat) : Nat := if cnt = 60 then 60 else cnt + 1
def sLog (cnt : Nat) (e : Nat → Nat → Int32) (a b c d : Int32) : Nat → Nat → Int32 := fun i j => if cnt = 60 then (if i = 59 then row4 a b c d j else e (i + 1) j) else (if i = cnt then row4 a b c d j else e i j)
theorem HM.sm {S : Nat → Nat → Bool} {σ σ' : Mm} {np nr W H : Nat} {ru pg rd : Nat → Int32} (h : HM σ np nr W H ru pg rd) (s : Sm S σ σ') (h0 : S 310 26 = false ∧ S 310 27 = false ∧ S 310 28 = false) (hs : ∀ k, S 315 k = false ∧ S 317 k = false ∧ S 319 k = false) : HM σ' np nr W H ru pg rd := by
  obtain ⟨r, e1, e2, e3, d1, d2, d3⟩ := h
  refine ⟨?_, by rw [s.1 _ _ h0.1]; exact e1, by rw [s.1 _ _ h0.2.1]; exact e2, by rw [s.1 _ _ h0.2.2]; exact e3, fun k hk => by rw [s.1 _ _ (hs k).1]; exact d1 k hk, fun k hk => by rw [s.1 _ _ (hs k).2.1]; exact d2 k hk, fun k hk => by rw [s.1 _ _ (hs k).2.2]; exact d3 k hk⟩
  unfold RM at r ⊢
  simp only [s.2.2 310 1 (by omega), s.2.2 310 2 (by omega), s.2.2 310 3 (by omega), s.2.2 310 4 (by omega), s.2.2 310 15 (by omega), s.2.2 310 16 (by omega), s.2.2 310 18 (by omega), s.2.2 310 19 (by omega), s.2.2 310 20 (by omega), s.2.2 310 21 (by omega), s.2.2 310 22 (by omega), s.2.2 310 23 (by omega), s.2.2 310 24 (by omega), s.2.2 310 25 (by omega), s.2.2 310 33 (by omega), s.2.2 310 34 (by omega), s.2.2 310 35 (by omega), s.2.2 310 38 (by omega), s.2.2 310 39 (by omega), s.2.2 310 40 (by omega), s.2.2 310 41 (by omega), s.2.2 310 48 (by omega), s.2.2 310 49 (by omega), s.2.2 310 50 (by omega)]
  exact r
theorem MW.sI {σ : Mm} {m k : Nat} {w : Nat → Int32} {v : Int32} (h : MW σ m w) : MW (sI σ m k v) m (uw w k v) := by
  intro j hj
  rw [gI_sI]; unfold uw
  by_cases z : j = k
  · rw [if_pos ⟨rfl, z⟩, if_pos z]
  · rw [if_neg (fun x => z x.2), if_neg z]; exact h j hj
theorem MW.sm {S : Nat → Nat → Bool} {σ σ' : Mm} {m : Nat} {w : Nat → Int32} (h : MW σ m w) (s : Sm S σ σ') (hs : ∀ k, S m k = false) : MW σ' m w := fun k hk => by rw [s.1 _ _ (hs k)]; exact h k hk
theorem MLg.sm {S : Nat → Nat → Bool} {σ σ' : Mm} {m cnt : Nat} {e : Nat → Nat → Int32} (h : MLg σ m cnt e) (s : Sm S σ σ') (hs : ∀ k, S m k = false) : MLg σ' m cnt e := ⟨h.1, by rw [s.1 _ _ (hs _)]; exact h.2.1, fun i j hi hj => by rw [s.1 _ _ (hs _)]; exact h.2.2 i j hi hj⟩
theorem MLg.low {σ : Mm} {m cnt k : Nat} {e : Nat → Nat → Int32} {v : Int32} (h : MLg σ m cnt e) (hk : k < 110) : MLg (sI σ m k v) m cnt e := ⟨h.1, by rw [gI_sI, if_neg (by omega)]; exact h.2.1, fun i j hi hj => by rw [gI_sI, if_neg (by omega)]; exact h.2.2 i j hi hj⟩
section MR2
variable {σ : Mm} {m np nr W H : Nat} {ru pg rd w : Nat → Int32}
theorem m_others (g : HB np nr W H ru pg rd) (h : HM σ np nr W H ru pg rd) (hl : ln m = 351) (hm : MW σ m w) {r : Nat} (hr : r < 6) (c : Int32) : fX10_others 310 m (nI r) c σ = some (sOth nr w r c) := by
  have g2 := g.2.1
  unfold fX10_others fX10_others_w6
  have key : wh (fun a : Int32 × Int32 => fX10_others_l6 310 m (nI r) c a.1 a.2 σ) BIG (0, 0) = some (sOth nr w r c) := by
    refine wh_run (fun i => (fo (fun k acc => if k = r then acc else if w (24 + 14 * k) = c then acc + 1 else acc) 0 i, nI i)) nr rfl (BIG_lt (by omega)) (fun i hi => ?_) ?_
    · unfold fX10_others_l6 fX10_others_b38 fX10_others_b37 fX10_others_b38
      rw [fo_succ]
      have e6 : ¬ nI nr ≤ nI i := fun z => absurd ((leT (by omega) (by omega)).mp z) (by omega)
      by_cases q : i = r
      · subst q
        simp only [h.2.2.2.1, if_neg e6, if_true, nI_1, Int32.add_zero]
      · have q' : ¬ nI i = nI r := fun z => q ((eqT (by omega) (by omega)).mp z)
        simp only [h.2.2.2.1, if_neg e6, if_neg q', if_neg q, m_cellOf hl (show i < 6 by omega), hm (24 + 14 * i) (by omega), Option.bind_some, nI_1, Int32.add_zero]
        split <;> rfl
    · unfold fX10_others_l6
      simp only [h.2.2.2.1, if_pos (Int32.le_refl (nI nr))]
      rfl
  rw [key]; rfl
theorem m_near (g : HB np nr W H ru pg rd) (h : HM σ np nr W H ru pg rd) (hl : ln m = 351) (hm : MW σ m w) (hnp : 0 < np) {r : Nat} (hr : r < nr) (c : Int32) : fX10_isNear 310 m (nI r) c σ = some (sNear ru rd w r c) := by
  have g2 := g.2.1
  have r22 : gR σ 310 22 = some 319 := h.1.2.2.2.2.2.2.2.2.2.2.1
  have l22 : ln 319 = 24 := lnM.2.2.2.2.2.2.2.2.1
  have e : (4 : Int32) * nI r + 2 = nI (4 * r + 2) := by rw [show (4 : Int32) = nI 4 from rfl, show (2 : Int32) = nI 2 from rfl, pk_mul, nI_add]
  unfold fX10_isNear sNear
  rw [m_cellOf hl (show r < 6 by omega), hm _ (by omega), Option.bind_some, m_apart g h hnp, Option.bind_some, r22, Option.bind_some, e, l22, if_pos (ixT (by omega) (by omega)), clT (by omega), h.2.2.2.2.2.2 (4 * r + 2) (by omega)]
  split <;> rfl
theorem m_canDo (g : HB np nr W H ru pg rd) (h : HM σ np nr W H ru pg rd) (hl : ln m = 351) (hm : MW σ m w) {r : Nat} (hr : r < nr) : fX10_canDo 310 m (nI r) σ = some (if w (25 + 14 * r) = 0 then 1 else 0) := by
  have g2 := g.2.1
  have e : (24 : Int32) + 14 * nI r + 1 = nI (25 + 14 * r) := by
    rw [show (24 : Int32) = nI 24 from rfl, show (14 : Int32) = nI 14 from rfl, show (1 : Int32) = nI 1 from rfl, pk_mul, nI_add, nI_add]; congr 1; omega
  unfold fX10_canDo
  rw [m_isReader g h hr, Option.bind_some, if_neg z1, e, hl, if_pos (ixT (by omega) (by omega)), clT (by omega), hm _ (by omega)]
  split <;> rfl
theorem m_canDo_out (g : HB np nr W H ru pg rd) (h : HM σ np nr W H ru pg rd) {x : Int32} (hx : ¬ ∃ r, r < nr ∧ x = nI r) : fX10_canDo 310 m x σ = some 0 := by
  unfold fX10_canDo
  rw [m_isReader_out g h hx, Option.bind_some, if_pos rfl]
theorem m_pg (h : HM σ np nr W H ru pg rd) {p k : Nat} (hnp : np ≤ 12) (hp : p < np) (hk : k < 4) : gR σ 310 20 = some 317 ∧ ixB (nI (4 * p + k)) (ln 317) = true ∧ gI σ 317 (4 * p + k) = pg (4 * p + k) := by
  refine ⟨h.1.2.2.2.2.2.2.2.2.1, ?_, h.2.2.2.2.2.1 _ (by omega)⟩
  rw [show ln 317 = 48 from lnM.2.2.2.2.2.2.1]
  exact ixT (by omega) (by omega)
theorem i4p (p : Nat) : (4 : Int32) * nI p = nI (4 * p) := by rw [show (4 : Int32) = nI 4 from rfl, pk_mul]
theorem i2p (p : Nat) : (2 : Int32) * nI p = nI (2 * p) := by rw [show (2 : Int32) = nI 2 from rfl, pk_mul]
theorem i2p1 (p : Nat) : (2 : Int32) * nI p + 1 = nI (2 * p + 1) := by rw [i2p, nI_1]
theorem m_canRead (g : HB np nr W H ru pg rd) (h : HM σ np nr W H ru pg rd) (hl : ln m = 351) (hm : MW σ m w) {r p : Nat} (hr : r < nr) (hp : p < np) : fX10_canRead 310 m (nI r) (nI p) σ = some (sMayR ru pg rd w r p) := by
  have g1 := g.1
  obtain ⟨a1, a2, a3⟩ := m_pg (k := 0) h g1 hp (by omega)
  rw [Nat.add_zero] at a2 a3
  unfold fX10_canRead sMayR
  rw [m_canDo g h hl hm hr, Option.bind_some]
  by_cases q1 : w (25 + 14 * r) = 0
  · rw [if_pos q1, if_neg z1, if_pos q1, m_isPage g h hp, Option.bind_some, if_neg z1, i2p, hl, if_pos (ixT (by omega) (by omega)), clT (by omega), hm _ (by omega)]
    by_cases q2 : w (2 * p) ≤ 0
    · rw [if_pos q2, if_pos q2]
    · rw [if_neg q2, if_neg q2, a1, Option.bind_some, i4p, if_pos a2, clT (by omega), a3, m_near g h hl hm (by omega) hr, Option.bind_some]
      unfold sNear
      split <;> rfl
  · rw [if_neg q1, if_pos rfl, if_neg q1]
theorem m_canRead_out (g : HB np nr W H ru pg rd) (h : HM σ np nr W H ru pg rd) (hl : ln m = 351) (hm : MW σ m w) {x y : Int32} (hxy : (¬ ∃ r, r < nr ∧ x = nI r) ∨ ¬ ∃ p, p < np ∧ y = nI p) : fX10_canRead 310 m x y σ = some 0 := by
  unfold fX10_canRead
  by_cases hx : ∃ r, r < nr ∧ x = nI r
  · obtain ⟨r, hr, rfl⟩ := hx
    have hy := hxy.resolve_left (fun z => z ⟨r, hr, rfl⟩)
    rw [m_canDo g h hl hm hr, Option.bind_some, m_isPage_out g h hy, Option.bind_some, if_pos rfl]
    split <;> rfl
  · rw [m_canDo_out g h hx, Option.bind_some, if_pos rfl]
theorem m_canRecut (g : HB np nr W H ru pg rd) (h : HM σ np nr W H ru pg rd) (hl : ln m = 351) (hm : MW σ m w) {D : Nat} (hB : WB D w) {r p : Nat} (hr : r < nr) (hp : p < np) : fX10_canRecut 310 m (nI r) (nI p) σ = some (sMayC ru pg rd w r p) := by
  have g1 := g.1
  have g2 := g.2.1
  obtain ⟨a1, a2, a3⟩ := m_pg (k := 0) h g1 hp (by omega)
  rw [Nat.add_zero] at a2 a3
  obtain ⟨k, hk, ek⟩ := (hB.2.1 r (by omega)).2.2 p (by omega)
  unfold fX10_canRecut sMayC
  rw [m_canDo g h hl hm hr, Option.bind_some]
  by_cases q1 : w (25 + 14 * r) = 0
  · rw [if_pos q1, if_neg z1, if_pos q1, m_isPage g h hp, Option.bind_some, if_neg z1, m_knows hl (by omega) (by omega), Option.bind_some, hm _ (by omega)]
    by_cases q2 : w (26 + 14 * r + p) = 0
    · rw [if_pos (show w (26 + 14 * r + p) ≤ 0 by rw [q2]; exact Int32.le_refl 0), if_pos rfl, if_pos q2]
    · have q3 : ¬ w (26 + 14 * r + p) ≤ 0 := by
        rw [ek] at q2 ⊢
        intro z
        exact q2 (by have := (leT (b := 0) (by omega) (by omega)).mp z; rw [show k = 0 by omega]; rfl)
      rw [if_neg q3, if_neg z1, if_neg q2, a1, Option.bind_some, i4p, if_pos a2, clT (by omega), a3, m_near g h hl hm (by omega) hr, Option.bind_some]
      unfold sNear
      split <;> rfl
  · rw [if_neg q1, if_pos rfl, if_neg q1]
theorem m_canRecut_out (g : HB np nr W H ru pg rd) (h : HM σ np nr W H ru pg rd) (hl : ln m = 351) (hm : MW σ m w) {x y : Int32} (hxy : (¬ ∃ r, r < nr ∧ x = nI r) ∨ ¬ ∃ p, p < np ∧ y = nI p) : fX10_canRecut 310 m x y σ = some 0 := by
  unfold fX10_canRecut
  by_cases hx : ∃ r, r < nr ∧ x = nI r
  · obtain ⟨r, hr, rfl⟩ := hx
    have hy := hxy.resolve_left (fun z => z ⟨r, hr, rfl⟩)
    rw [m_canDo g h hl hm hr, Option.bind_some, m_isPage_out g h hy, Option.bind_some, if_pos rfl]
    split <;> rfl
  · rw [m_canDo_out g h hx, Option.bind_some, if_pos rfl]
theorem m_canGo (g : HB np nr W H ru pg rd) (h : HM σ np nr W H ru pg rd) (hl : ln m = 351) (hm : MW σ m w) (hnp : 0 < np) {r c : Nat} (hr : r < nr) (hc : c < W * H) : fX10_canGo 310 m (nI r) (nI c) σ = some (sMayG ru rd w r (nI c)) := by
  have g2 := g.2.1
  unfold fX10_canGo sMayG
  rw [m_canDo g h hl hm hr, Option.bind_some]
  by_cases q1 : w (25 + 14 * r) = 0
  · rw [if_pos q1, if_neg z1, if_pos q1, m_isCell g h hc, Option.bind_some, if_neg z1, m_cellOf hl (by omega), hm _ (by omega), Option.bind_some]
    by_cases q2 : w (24 + 14 * r) = nI c
    · rw [if_pos q2, if_pos q2]
    · rw [if_neg q2, if_neg q2, m_near g h hl hm hnp hr, Option.bind_some]
      unfold sNear
      split <;> rfl
  · rw [if_neg q1, if_pos rfl, if_neg q1]
theorem m_canGo_out (g : HB np nr W H ru pg rd) (h : HM σ np nr W H ru pg rd) (hl : ln m = 351) (hm : MW σ m w) {x y : Int32} (hxy : (¬ ∃ r, r < nr ∧ x = nI r) ∨ ¬ ∃ c, c < W * H ∧ y = nI c) : fX10_canGo 310 m x y σ = some 0 := by
  unfold fX10_canGo
  by_cases hx : ∃ r, r < nr ∧ x = nI r
  · obtain ⟨r, hr, rfl⟩ := hx
    have hy := hxy.resolve_left (fun z => z ⟨r, hr, rfl⟩)
    rw [m_canDo g h hl hm hr, Option.bind_some, m_isCell_out g h hy, Option.bind_some, if_pos rfl]
    split <;> rfl
  · rw [m_canDo_out g h hx, Option.bind_some, if_pos rfl]
end MR2
/-! the log -/
theorem log_tail {σ : Mm} {m cnt : Nat} {w : Nat → Int32} {e : Nat → Nat → Int32} (hl : ln m = 351) (hm : MW σ m w) (hg : MLg σ m cnt e) (hc : cnt < 60) (a b c d : Int32) : ∃ σ', fX10_writes_b50 m a b c d σ = some σ' ∧ Sm (sM m) σ σ' ∧ MW σ' m w ∧ MLg σ' m (cnt + 1) (fun i j => if i = cnt then row4 a b c d j else e i j) := by
  have s0 : sM m m 0 = true := by unfold sM; simp
  have sk : ∀ k, sM m m k = true := fun k => by unfold sM; simp
  have e0 : (111 : Int32) + 4 * nI cnt = nI (111 + 4 * cnt) := by rw [i4p, show (111 : Int32) = nI 111 from rfl, nI_add]
  unfold fX10_writes_b50
  rw [hl]
  have i110 : Int32.toNatClampNeg 110 = 110 := by decide
  simp only [i110, hg.2.1, e0, show (1 : Int32) = nI 1 from rfl, show (2 : Int32) = nI 2 from rfl, show (3 : Int32) = nI 3 from rfl, nI_add, show ixB 110 351 = true by decide, ixT (show 111 + 4 * cnt < 351 by omega) (show 351 ≤ 2147483648 by omega), ixT (show 111 + 4 * cnt + 1 < 351 by omega) (show 351 ≤ 2147483648 by omega), ixT (show 111 + 4 * cnt + 2 < 351 by omega) (show 351 ≤ 2147483648 by omega), ixT (show 111 + 4 * cnt + 3 < 351 by omega) (show 351 ≤ 2147483648 by omega), if_true, clT (show 111 + 4 * cnt < 2147483648 by omega), clT (show 111 + 4 * cnt + 1 < 2147483648 by omega), clT (show 111 + 4 * cnt + 2 < 2147483648 by omega), clT (show 111 + 4 * cnt + 3 < 2147483648 by omega)]
  have v : gI (sI (sI (sI (sI σ m (111 + 4 * cnt) a) m (111 + 4 * cnt + 1) b) m (111 + 4 * cnt + 2) c) m (111 + 4 * cnt + 3) d) m 110 = nI cnt := by
    rw [gI_sI, if_neg (by omega), gI_sI, if_neg (by omega), gI_sI, if_neg (by omega), gI_sI, if_neg (by omega)]; exact hg.2.1
  rw [v, nI_add]
  refine ⟨_, rfl, (((((Sm.rf.sI (sk _)).sI (sk _)).sI (sk _)).sI (sk _)).sI (sk _)), fun k hk => ?_, by omega, ?_, fun i j hi hj => ?_⟩
  · rw [gI_sI, if_neg (by omega), gI_sI, if_neg (by omega), gI_sI, if_neg (by omega), gI_sI, if_neg (by omega), gI_sI, if_neg (by omega)]; exact hm k hk
  · rw [gI_sI, if_pos ⟨rfl, rfl⟩]
  · rw [gI_sI, if_neg (by omega), gI_sI, gI_sI, gI_sI, gI_sI]
    show _ = (if i = cnt then row4 a b c d j else e i j)
    by_cases z : i = cnt
    · subst z
      rw [if_pos rfl]
      unfold row4
      have : j = 0 ∨ j = 1 ∨ j = 2 ∨ j = 3 := by omega
      rcases this with rfl | rfl | rfl | rfl <;> simp
    · rw [if_neg z, if_neg (by omega), if_neg (by omega), if_neg (by omega), if_neg (by omega)]
      exact hg.2.2 i j (by omega) hj
theorem m_writes {σ : Mm} {m cnt : Nat} {w : Nat → Int32} {e : Nat → Nat → Int32} (hl : ln m = 351) (hm : MW σ m w) (hg : MLg σ m cnt e) (a b c d : Int32) : ∃ σ', fX10_writes m a b c d σ = some σ' ∧ Sm (sM m) σ σ' ∧ MW σ' m w ∧ MLg σ' m (sLogN cnt) (sLog cnt e a b c d) := by
  have sk : ∀ k, sM m m k = true := fun k => by unfold sM; simp
  have hc := hg.1
  have i110 : Int32.toNatClampNeg 110 = 110 := by decide
  unfold fX10_writes
  rw [hl, if_pos (show ixB 110 351 = true by decide), i110, hg.2.1]
  by_cases q : cnt = 60
  · subst q
    rw [if_pos (show nI 60 = 60 from rfl)]
    unfold fX10_writes_w12
    have key : ∃ x, wh (fun a_1 : Int32 × Mm => fX10_writes_l12 m a b c d a_1.1 a_1.2) BIG (1, σ) = some x ∧ (Sm (sM m) σ x ∧ ∀ k, gI x m k = if 111 ≤ k ∧ k < 347 then gI σ m (k + 4) else gI σ m k) := by
      refine wh_inv (fun i y => y.1 = nI (i + 1) ∧ Sm (sM m) σ y.2 ∧ ∀ k, gI y.2 m k = if 111 ≤ k ∧ k < 111 + i then gI σ m (k + 4) else gI σ m k) _ 236 BIG 0 _ (Nat.zero_le _) (by unfold BIG; omega) ⟨rfl, Sm.rf, fun k => by rw [if_neg (by omega)]⟩ ?_ ?_
      · rintro i ⟨j, τ⟩ hi ⟨e1, e2, e3⟩
        simp only at e1 e2 e3
        subst e1
        left
        have e6 : ¬ (236 : Int32) < nI (i + 1) := fun z => absurd ((ltT (a := 236) (by omega) (by omega)).mp z) (by omega)
        have c1 : (110 : Int32) + nI (i + 1) = nI (110 + (i + 1)) := by rw [show (110 : Int32) = nI 110 from rfl, nI_add]
        have c2 : nI (110 + (i + 1)) + 4 = nI (110 + (i + 1) + 4) := by rw [show (4 : Int32) = nI 4 from rfl, nI_add]
        unfold fX10_writes_l12
        rw [if_neg e6, c1, c2, hl, if_pos (ixT (by omega) (by omega)), if_pos (ixT (by omega) (by omega)), clT (by omega), clT (by omega), nI_1]
        refine ⟨_, rfl, rfl, e2.sI (sk _), fun k => ?_⟩
        rw [gI_sI, e3]
        by_cases z : k = 110 + (i + 1)
        · subst z; rw [if_pos ⟨rfl, rfl⟩, if_neg (by omega), if_pos (by omega)]
        · rw [if_neg (fun x => z x.2), e3]
          by_cases y : 111 ≤ k ∧ k < 111 + i
          · rw [if_pos y, if_pos (by omega)]
          · rw [if_neg y, if_neg (by omega)]
      · rintro ⟨j, τ⟩ ⟨e1, e2, e3⟩
        simp only at e1 e2 e3
        subst e1
        unfold fX10_writes_l12
        rw [if_pos (show (236 : Int32) < nI (236 + 1) by decide)]
        exact ⟨_, rfl, e2, e3⟩
    obtain ⟨x, k1, k2, k3⟩ := key
    have x110 : gI x m 110 = nI 60 := by rw [k3, if_neg (by omega)]; exact hg.2.1
    rw [k1, Option.bind_some]
    dsimp only
    rw [x110]
    have hm2 : MW (sI x m 110 (nI 60 - 1)) m w := fun k hk => by rw [gI_sI, if_neg (by omega), k3, if_neg (by omega)]; exact hm k hk
    have hg2 : MLg (sI x m 110 (nI 60 - 1)) m 59 (fun i j => e (i + 1) j) := ⟨by omega, by rw [gI_sI, if_pos ⟨rfl, rfl⟩]; rfl, fun i j hi hj => by
      rw [gI_sI, if_neg (by omega), k3, if_pos (by omega), show 111 + 4 * i + j + 4 = 111 + 4 * (i + 1) + j by omega]
      exact hg.2.2 (i + 1) j (by omega) hj⟩
    obtain ⟨τ, r1, r2, r3, r4⟩ := log_tail hl hm2 hg2 (by omega) a b c d
    rw [if_pos (by decide), if_pos (by decide)]
    refine ⟨τ, r1, (k2.sI (sk _)).tr r2, r3, ?_⟩
    unfold sLogN sLog
    simp only [if_true]
    exact r4
  · have q' : ¬ nI cnt = 60 := fun z => q ((eqT (b := 60) (by omega) (by omega)).mp z)
    rw [if_neg q']
    obtain ⟨τ, r1, r2, r3, r4⟩ := log_tail hl hm hg (by omega) a b c d
    refine ⟨τ, r1, r2, r3, ?_⟩
    unfold sLogN sLog
    simp only [if_neg q]
    exact r4
