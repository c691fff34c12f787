/-! centuries: both sides in step, each in a memory of its own -/
theorem wh_two {α β γ δ : Type} {f : α → Option (α ⊕ β)} {g : γ → Option (γ ⊕ δ)} (I : Nat → α → γ → Prop) (Q : β → δ → Prop) :
    ∀ (N K : Nat) (i : Nat) (a : α) (c : γ), i ≤ N → N < K + i → I i a c → (∀ i a c, i < N → I i a c → (∃ a' c', f a = some (.inl a') ∧ g c = some (.inl c') ∧ I (i + 1) a' c') ∨ ∃ b d, f a = some (.inr b) ∧ g c = some (.inr d) ∧ Q b d) → (∀ a c, I N a c → ∃ b d, f a = some (.inr b) ∧ g c = some (.inr d) ∧ Q b d) → ∃ b d, wh f K a = some b ∧ wh g K c = some d ∧ Q b d := by
  intro N K
  induction K with
  | zero => intro i a c h1 h2; omega
  | succ K ih =>
    intro i a c h1 h2 hI hs hf
    by_cases hi : i = N
    · subst hi
      obtain ⟨b, d, e, e2, hb⟩ := hf a c hI
      exact ⟨b, d, by unfold wh; rw [e], by unfold wh; rw [e2], hb⟩
    · rcases hs i a c (by omega) hI with ⟨a', c', e, e2, hI'⟩ | ⟨b, d, e, e2, hb⟩
      · obtain ⟨b, d, e3, e4, hb⟩ := ih (i + 1) a' c' (by omega) (by omega) hI' hs hf
        exact ⟨b, d, by unfold wh; rw [e]; exact e3, by unfold wh; rw [e2]; exact e4, hb⟩
      · exact ⟨b, d, by unfold wh; rw [e], by unfold wh; rw [e2], hb⟩
def CX (np nr W H : Nat) (ru pg rd : Nat → Int32) (nl : Nat) (F : Nat → LF) (lw : Option LF) (D : Nat) (w : Nat → Int32) (S : Nat) (jl : Nat → Nat → Int32) (acts : Nat) (pw : Nat → Nat → Int32) (σ τ : Mm) : Prop :=
  CC σ np nr W H ru pg rd lw w S jl acts pw ∧ MM τ np nr W H ru pg rd nl F lw w S jl acts pw ∧ WU D w ∧ WZ np nr w ∧ (∀ u, u < acts → WU D (pw u) ∧ WZ np nr (pw u)) ∧ acts ≤ S
def LX (sl : Nat) (σ τ : Mm) : Prop := gL σ 0 18 = gL τ 310 43 ∧ gI σ 0 17 = nI sl ∧ gI τ 310 37 = nI sl ∧ sl < 100
def sAc2 (c k : Nat) : Bool := sAc c k || (c == 0 && k == 18)
def sAm2 (c k : Nat) : Bool := sAm c k || (c == 310 && k == 43)
section Cent
variable {σ τ : Mm} {D np nr W H S acts nl sl : Nat} {ru pg rd w : Nat → Int32} {F : Nat → LF} {lw : Option LF} {jl pw : Nat → Nat → Int32}
theorem CX.act {w' : Nat → Int32} {jl' : Nat → Nat → Int32} {D' : Nat} {σ' τ' : Mm} (h : CX np nr W H ru pg rd nl F lw D w S jl acts pw σ τ) (hC : CC σ' np nr W H ru pg rd lw w' (min 100 (S + 1)) jl' (min 40 (acts + 1)) (sPw w pw)) (hM : MM τ' np nr W H ru pg rd nl F lw w' (min 100 (S + 1)) jl' (min 40 (acts + 1)) (sPw w pw)) (hU : WU D' w') (hZ : WZ np nr w') (hD : D ≤ D') : CX np nr W H ru pg rd nl F lw D' w' (min 100 (S + 1)) jl' (min 40 (acts + 1)) (sPw w pw) σ' τ' := by
  obtain ⟨h1, h2, h3, h4, h5, h6⟩ := h
  refine ⟨hC, hM, hU, hZ, fun u hu => ?_, by omega⟩
  unfold sPw
  by_cases q : u = 0
  · rw [if_pos q]; exact ⟨h3.mono hD, h4⟩
  · rw [if_neg q]
    have := h5 (u - 1) (by omega)
    exact ⟨this.1.mono hD, this.2⟩
theorem CX.g (h : CX np nr W H ru pg rd nl F lw D w S jl acts pw σ τ) : HB np nr W H ru pg rd := h.1.2.1
theorem CX.rf (h : CX np nr W H ru pg rd nl F lw D w S jl acts pw σ τ) : RF σ := h.1.1
theorem CX.hc (h : CX np nr W H ru pg rd nl F lw D w S jl acts pw σ τ) : HC σ 3 np nr ru pg rd := h.1.2.2.1
theorem CX.sc (h : CX np nr W H ru pg rd nl F lw D w S jl acts pw σ τ) : SC σ 89 w := h.1.2.2.2.2.1
theorem CX.S100 (h : CX np nr W H ru pg rd nl F lw D w S jl acts pw σ τ) : S ≤ 100 := h.1.2.2.2.2.2.2.1
theorem CX.mm (h : CX np nr W H ru pg rd nl F lw D w S jl acts pw σ τ) : MM τ np nr W H ru pg rd nl F lw w S jl acts pw := h.2.1
theorem CX.wu (h : CX np nr W H ru pg rd nl F lw D w S jl acts pw σ τ) : WU D w := h.2.2.1
theorem CX.wz (h : CX np nr W H ru pg rd nl F lw D w S jl acts pw σ τ) : WZ np nr w := h.2.2.2.1
theorem sAc_0 (k : Nat) : sAc 0 k = false := sAc_no (by omega) (by omega)
theorem LX.ac {σ' τ' : Mm} (h : LX sl σ τ) (s : Sm sAc σ σ') (s2 : Sm sAm τ τ') : LX sl σ' τ' :=
  ⟨by rw [s.2.1 _ _ (sAc_0 _), s2.2.1 _ _ rfl]; exact h.1, by rw [s.1 _ _ (sAc_0 _)]; exact h.2.1, by rw [s2.1 _ _ rfl]; exact h.2.2.1, h.2.2.2⟩
theorem CC.dr (h : CC σ np nr W H ru pg rd lw w S jl acts pw) (v : Int64) : CC (sL σ 0 18 v) np nr W H ru pg rd lw w S jl acts pw := h
theorem MM.dr (h : MM σ np nr W H ru pg rd nl F lw w S jl acts pw) (v : Int64) : MM (sL σ 310 43 v) np nr W H ru pg rd nl F lw w S jl acts pw :=
  h.sm (Sm.rf.sL (S := fun c k => c == 310 && k == 43) rfl) (fun c k hc => by
    unfold kMM coreH at hc
    simp only [Bool.or_eq_true, Bool.and_eq_true, beq_iff_eq] at hc
    simp only [Bool.and_eq_false_imp, beq_iff_eq, beq_eq_false_iff_ne, ne_eq]
    omega) (fun k => ⟨rfl, rfl⟩)
theorem c_isThere (hF : RF σ) (g : HB np nr W H ru pg rd) (hH : HC σ 3 np nr ru pg rd) (hs : SC σ 89 w) {p : Nat} (hp : p < np) : fX9_isThere 0 (nI p) σ = some (if w (2 * p) ≤ 0 then 0 else 1) := by
  have g1 := g.1
  have c89 := hF.sr89
  unfold fX9_isThere
  rw [hF.hall, Option.bind_some, c_hasPage g hH hp, Option.bind_some, if_neg z1, hF.now, Option.bind_some, c89.1, Option.bind_some, c89.2.2.2.2.1, if_pos (ixT (by omega) (by omega)), clT (by omega), hs.1 p (by omega)]
  split <;> rfl
theorem c_isThere_out (hF : RF σ) (g : HB np nr W H ru pg rd) (hH : HC σ 3 np nr ru pg rd) {x : Int32} (hx : ¬ ∃ p, p < np ∧ x = nI p) : fX9_isThere 0 x σ = some 0 := by
  unfold fX9_isThere
  rw [hF.hall, Option.bind_some, c_hasPage_out g hH hx, Option.bind_some, if_pos rfl]
def sSlip (w : Nat → Int32) (r p : Nat) : Nat → Int32 := uw (uw w (2 * p + 1) (remI (w (2 * p + 1) + 1) 10)) (26 + 14 * r + p) (remI (w (2 * p + 1) + 1) 10 + 1)
theorem slip_ok (hU : WU D w) (hZ : WZ np nr w) (h1 : np ≤ 12) (h2 : nr ≤ 6) {r p : Nat} (hr : r < nr) (hp : p < np) : WU D (sSlip w r p) ∧ WZ np nr (sSlip w r p) := by
  obtain ⟨t, h3, h4⟩ := hU (2 * p + 1) (by omega)
  rw [ub_dp (by omega)] at h3
  have e : remI (w (2 * p + 1) + 1) 10 = nI ((t + 1) % 10) := by
    rw [h4, nI_1, show (10 : Int32) = nI 10 from rfl, remN (by omega) (by omega) (by omega)]
  unfold sSlip
  rw [e, nI_1]
  refine ⟨(hU.up _ ?_ rfl).up _ ?_ rfl, (hZ.up ?_ ?_).up ?_ ?_⟩
  · rw [ub_dp (by omega)]; omega
  · rw [ub_mem (by omega) (by omega)]; omega
  · intros; omega
  · intros; omega
  · intros; omega
  · intros; omega
theorem c_slip (hR : SR σ 89) (hs : SC σ 89 w) {r p : Nat} (hr : r < 6) (hp : p < 12) : ∃ σ', fX6_slip 89 (nI r) (nI p) σ = some σ' ∧ Sm (sS 89) σ σ' ∧ SC σ' 89 (sSlip w r p) := by
  have hs1 := hs.says (p := p) (v := remI (w (2 * p + 1) + 1) 10) hp
  have hs2 := hs1.mem (r0 := r) (p0 := p) (v := remI (w (2 * p + 1) + 1) 10) hr hp
  have s1 : Sm (sS 89) σ (sI σ (89 + 2) p (remI (w (2 * p + 1) + 1) 10)) := Sm.rf.sI rfl
  unfold fX6_slip
  rw [c_isMemory hr hp, Option.bind_some, if_neg z1, hR.2.1, Option.bind_some, hR.2.2.2.2.2.1, if_pos (ixT (by omega) (by omega)), if_pos (ixT (by omega) (by omega)), if_pos (ixT (by omega) (by omega)), clT (by omega), hs.2.1 p hp, gI_sI, if_pos ⟨rfl, rfl⟩, c_learn (hR.sm s1 (by omega)) hr hp, Option.bind_some]
  exact ⟨_, rfl, s1.sI rfl, hs2⟩
theorem X_try (h : CX np nr W H ru pg rd nl F lw D w S jl acts pw σ τ) (hL : LX sl σ τ) (hD : D < 2147483648) (hnp : 0 < np) {r : Nat} (hr : r < nr) : ∃ σ' τ' w' S' jl' acts' pw', (bnd2 (fX9_draw 0 (nI np) σ) fun v s => fX9_tryPage 0 (nI r) v s) = some σ' ∧ fX10_drawn 310 (nI r) τ = some τ' ∧ CX np nr W H ru pg rd nl F lw D w' S' jl' acts' pw' σ' τ' ∧ LX sl σ' τ' ∧ Sm sAc2 σ σ' ∧ Sm sAm2 τ τ' := by
  have g := h.g
  have g1 := g.1
  have g2 := g.2.1
  obtain ⟨l1, l2, l3, l4⟩ := hL
  unfold fX10_drawn
  rw [h.mm.1.hm.2.2.1, c_draw hnp (by omega), m_draw hnp (by omega), bnd2_some, bnd2_some, ← l1]
  obtain ⟨p, hp, ep⟩ := drawV_lt (gL σ 0 18) hnp (by omega)
  rw [ep]
  have hC := h.1.dr (nextL (gL σ 0 18))
  have hM := h.mm.dr (nextL (gL σ 0 18))
  have s0 : Sm sAc2 σ (sL σ 0 18 (nextL (gL σ 0 18))) := Sm.rf.sL rfl
  have t0 : Sm sAm2 τ (sL τ 310 43 (nextL (gL σ 0 18))) := Sm.rf.sL rfl
  have hL1 : LX sl (sL σ 0 18 (nextL (gL σ 0 18))) (sL τ 310 43 (nextL (gL σ 0 18))) := ⟨by rw [gL_sL, gL_sL, if_pos ⟨rfl, rfl⟩, if_pos ⟨rfl, rfl⟩], l2, l3, l4⟩
  have hX : CX np nr W H ru pg rd nl F lw D w S jl acts pw (sL σ 0 18 (nextL (gL σ 0 18))) (sL τ 310 43 (nextL (gL σ 0 18))) := ⟨hC, hM, h.2.2⟩
  generalize sL σ 0 18 (nextL (gL σ 0 18)) = σ1 at hC s0 hL1 hX
  generalize sL τ 310 43 (nextL (gL σ 0 18)) = τ1 at hM t0 hL1 hX
  have a2 : ∀ {a b : Mm}, Sm sAc a b → Sm sAc2 a b := fun s => s.mono (fun c k hc => (Bool.or_eq_false_iff.mp hc).1)
  have m2 : ∀ {a b : Mm}, Sm sAm a b → Sm sAm2 a b := fun s => s.mono (fun c k hc => (Bool.or_eq_false_iff.mp hc).1)
  unfold fX9_tryPage
  rw [hX.rf.win, Option.bind_some, hX.rf.now, Option.bind_some, c_may_read g hX.hc hX.rf.wr hX.rf.sr89 hX.sc hr hp, Option.bind_some, hM.r33, Option.bind_some, m_canRead g hM.1.hm ln323 hM.2.1 hr hp, Option.bind_some]
  by_cases q : sMayR ru pg rd w r p = 0
  · rw [if_pos q, if_pos q, c_isThere hX.rf g hX.hc hX.sc hp, Option.bind_some, i2p, ln323, if_pos (ixT (by omega) (by omega)), clT (by omega), hM.2.1 _ (by omega)]
    by_cases q1 : w (2 * p) ≤ 0
    · have q1' : ¬ 0 < w (2 * p) := fun z => by rw [Int32.lt_iff_toInt_lt] at z; rw [Int32.le_iff_toInt_le] at q1; omega
      rw [if_pos q1, if_pos rfl, if_neg q1', c_may_recut g hX.hc hX.rf.wr hX.rf.sr89 hX.sc hr hp, Option.bind_some, m_canRecut g hM.1.hm ln323 hM.2.1 h.wu.wb hr hp, Option.bind_some]
      by_cases q2 : sMayC ru pg rd w r p = 0
      · rw [if_pos q2, if_pos q2]
        exact ⟨_, _, w, S, jl, acts, pw, rfl, rfl, hX, hL1, s0, t0⟩
      · have hk : ¬ w (26 + 14 * r + p) = 0 := fun z => q2 (by unfold sMayC; rw [if_pos z]; split <;> rfl)
        obtain ⟨σ2, k1, k2, k3⟩ := C_recut hC hr hp
        obtain ⟨τ2, τ3, j1, j2, j3, j4, j5⟩ := M_recut hM g h.S100 hr hp
        have hL2 := hL1.ac k2 j4
        have hX2 := hX.act k3 j5 (h.wu.recut g hr hp hk) (h.wz.recut g1 hr hp) (Nat.le_refl _)
        obtain ⟨l1', l2', l3', l4'⟩ := hL2
        rw [if_neg q2, if_neg q2, k1, Option.bind_some, j1, Option.bind_some, j2, Option.bind_some, j3, Option.bind_some, show (100 : Int32) = nI 100 from rfl, c_draw (by omega) (by omega), bnd2_some, m_draw (by omega) (by omega), bnd2_some, ← l1']
        obtain ⟨v, hv, ev⟩ := drawV_lt (gL σ2 0 18) (m := 100) (by omega) (by omega)
        have hC3 := k3.dr (nextL (gL σ2 0 18))
        have hM3 := j5.dr (nextL (gL σ2 0 18))
        have s3 : Sm sAc2 σ (sL σ2 0 18 (nextL (gL σ2 0 18))) := (s0.tr (a2 k2)).sL rfl
        have t3 : Sm sAm2 τ (sL τ3 310 43 (nextL (gL σ2 0 18))) := (t0.tr (m2 j4)).sL rfl
        have hL3 : LX sl (sL σ2 0 18 (nextL (gL σ2 0 18))) (sL τ3 310 43 (nextL (gL σ2 0 18))) := ⟨by rw [gL_sL, gL_sL, if_pos ⟨rfl, rfl⟩, if_pos ⟨rfl, rfl⟩], l2', l3', l4'⟩
        have hX3 : CX np nr W H ru pg rd nl F lw D _ _ _ _ _ (sL σ2 0 18 (nextL (gL σ2 0 18))) (sL τ3 310 43 (nextL (gL σ2 0 18))) := ⟨hC3, hM3, hX2.2.2⟩
        rw [ev]
        generalize sL σ2 0 18 (nextL (gL σ2 0 18)) = σ3 at hC3 s3 hL3 hX3
        generalize sL τ3 310 43 (nextL (gL σ2 0 18)) = τ4 at hM3 t3 hL3 hX3
        rw [hL3.2.1, hL3.2.2.1]
        by_cases q3 : sl ≤ v
        · rw [if_pos ((leT (by omega) (by omega)).mpr q3), if_neg (fun z => absurd ((ltT (by omega) (by omega)).mp z) (by omega))]
          exact ⟨_, _, _, _, _, _, _, rfl, rfl, hX3, hL3, s3, t3⟩
        · obtain ⟨σ4, c1, c2, c3⟩ := c_slip hX3.rf.sr89 hX3.sc (show r < 6 by omega) (show p < 12 by omega)
          rw [if_neg (fun z => q3 ((leT (by omega) (by omega)).mp z)), if_pos ((ltT (by omega) (by omega)).mpr (by omega)), hX3.rf.now, Option.bind_some, c1, Option.bind_some, hM3.r33, Option.bind_some, nI_1 (2 * p), ln323, if_pos (ixT (by omega) (by omega)), if_pos (ixT (by omega) (by omega)), if_pos (ixT (by omega) (by omega)), clT (by omega), hM3.2.1 _ (by omega), gI_sI, if_pos ⟨rfl, rfl⟩, m_learns ln323 (by omega) (by omega), Option.bind_some]
          have sx : Sm sAc σ3 σ4 := c2.mono (fun c k hc => sX_S (sAc_X hc))
          have tx : Sm (sM 323) τ4 (sI (sI τ4 323 (2 * p + 1) (remI (sRecut pg w r p (2 * p + 1) + 1) 10)) 323 (26 + 14 * r + p) (remI (sRecut pg w r p (2 * p + 1) + 1) 10 + 1)) := (Sm.rf.sI rfl).sI rfl
          have tx2 : Sm sAm τ4 (sI (sI τ4 323 (2 * p + 1) (remI (sRecut pg w r p (2 * p + 1) + 1) 10)) 323 (26 + 14 * r + p) (remI (sRecut pg w r p (2 * p + 1) + 1) 10 + 1)) := tx.mono (fun c k hc => sM_Q (Bool.or_eq_false_iff.mp hc).1)
          obtain ⟨u1, u2⟩ := slip_ok hX3.wu hX3.wz g1 g2 hr hp
          refine ⟨_, _, _, _, _, _, _, rfl, rfl, ⟨?_, ⟨hM3.1.sm tx (sM_core (by omega)), (hM3.2.1.sI).sI, (hM3.2.2.1.low (by omega)).low (by omega), hM3.2.2.2.sm tx (fun k => rfl) rfl⟩, u1, u2, hX3.2.2.2.2⟩, hL3.ac sx tx2, s3.tr (a2 sx), t3.tr (m2 tx2)⟩
          obtain ⟨d1, d2, d3, d4, d5, d6, d7⟩ := hC3
          refine ⟨d1.sm c2, d2, d3.sm c2 (by omega) (fun j k hj => ?_), d4.sm c2 (fun j k hj => ?_), c3, d6.sm c2 (fun c k hc => ?_), d7.sm c2 (fun k => ⟨rfl, rfl⟩)⟩
          · unfold sS; simp; omega
          · unfold sS; simp; omega
          · unfold sP at hc; unfold sS
            simp only [Bool.or_eq_true, Bool.and_eq_true, beq_iff_eq, decide_eq_true_eq] at hc
            simp only [Bool.and_eq_false_imp, decide_eq_true_eq, decide_eq_false_iff_not]
            omega
    · have q1' : 0 < w (2 * p) := by rw [Int32.lt_iff_toInt_lt]; rw [Int32.le_iff_toInt_le] at q1; omega
      rw [if_neg q1, if_neg z1, if_pos q1']
      exact ⟨_, _, w, S, jl, acts, pw, rfl, rfl, hX, hL1, s0, t0⟩
  · obtain ⟨σ2, k1, k2, k3⟩ := C_read hC hr hp
    obtain ⟨τ2, τ3, j1, j2, j3, j4, j5⟩ := M_read hM g h.S100 h.wu hD hr hp
    rw [if_neg q, if_neg q, k1, Option.bind_some, j1, Option.bind_some, j2, Option.bind_some, j3, bnd2_some]
    exact ⟨_, _, _, _, _, _, _, rfl, rfl, hX.act k3 j5 (h.wu.read g hr hp) (h.wz.read g hr hp) (Nat.le_refl _), hL1.ac k2 j4, s0.tr (a2 k2), t0.tr (m2 j4)⟩
theorem X_day (h : CX np nr W H ru pg rd nl F lw D w S jl acts pw σ τ) (hL : LX sl σ τ) (hD : D < 2147483648) (hnp : 0 < np) (z z' y y' : Int32) : ∃ σ' τ', fX9_centuries_w40 0 z y 0 σ = some σ' ∧ fX10_centuries_w43 310 z' y' 0 τ = some τ' ∧ ∃ w' S' jl' acts' pw', CX np nr W H ru pg rd nl F lw D w' S' jl' acts' pw' σ' τ' ∧ LX sl σ' τ' ∧ Sm sAc2 σ σ' ∧ Sm sAm2 τ τ' := by
  have g := h.g
  have g1 := g.1
  have g2 := g.2.1
  unfold fX9_centuries_w40 fX10_centuries_w43
  refine wh_two (fun i a c => a.1 = nI i ∧ c.1 = nI i ∧ ∃ w' S' jl' acts' pw', CX np nr W H ru pg rd nl F lw D w' S' jl' acts' pw' a.2 c.2 ∧ LX sl a.2 c.2 ∧ Sm sAc2 σ a.2 ∧ Sm sAm2 τ c.2) (fun b d => ∃ w' S' jl' acts' pw', CX np nr W H ru pg rd nl F lw D w' S' jl' acts' pw' b d ∧ LX sl b d ∧ Sm sAc2 σ b ∧ Sm sAm2 τ d) nr BIG 0 _ _ (Nat.zero_le _) (by unfold BIG; omega) ⟨rfl, rfl, w, S, jl, acts, pw, h, hL, Sm.rf, Sm.rf⟩ ?_ ?_
  · rintro i ⟨j, σ1⟩ ⟨j2, τ1⟩ hi ⟨e1, e2, w', S', jl', acts', pw', hX, hL', s1, t1⟩
    simp only at e1 e2 hX hL' s1 t1
    subst e1 e2
    left
    have e6 : ¬ nI nr ≤ nI i := fun z => absurd ((leT (by omega) (by omega)).mp z) (by omega)
    unfold fX9_centuries_l40 fX10_centuries_l43 fX9_centuries_b81 fX10_centuries_b71
    rw [hX.rf.hall, Option.bind_some, hX.hc.2.2.2.2.2.2.2.1, if_neg e6, hX.rf.now, Option.bind_some, c_hasDone hX.sc (by omega), Option.bind_some, hX.mm.1.hm.2.2.2.1, if_neg e6, hX.mm.r33, Option.bind_some, m_canDo g hX.mm.1.hm ln323 hX.mm.2.1 hi, Option.bind_some]
    by_cases q : w' (25 + 14 * i) = 0
    · obtain ⟨σ2, τ2, w2, S2, jl2, acts2, pw2, k1, k2, k3, k4, k5, k6⟩ := X_try hX hL' hD hnp hi
      rw [if_pos q, if_pos q, if_neg z1, hX.hc.2.2.2.2.2.2.1, k2, Option.bind_some]
      refine ⟨(nI (i + 1), σ2), (nI (i + 1), τ2), ?_, by rw [nI_1], rfl, rfl, w2, S2, jl2, acts2, pw2, k3, k4, s1.tr k5, t1.tr k6⟩
      rw [c_draw hnp (by omega), bnd2_some] at k1 ⊢
      rw [k1, Option.bind_some, nI_1]
    · rw [if_neg q, if_neg q, if_pos rfl]
      exact ⟨_, _, rfl, rfl, nI_1 i, nI_1 i, w', S', jl', acts', pw', hX, hL', s1, t1⟩
  · rintro ⟨j, σ1⟩ ⟨j2, τ1⟩ ⟨e1, e2, w', S', jl', acts', pw', hX, hL', s1, t1⟩
    simp only at e1 e2 hX hL' s1 t1
    subst e1 e2
    unfold fX9_centuries_l40 fX10_centuries_l43
    rw [hX.rf.hall, Option.bind_some, hX.hc.2.2.2.2.2.2.2.1, if_pos (Int32.le_refl _), hX.mm.1.hm.2.2.2.1, if_pos (Int32.le_refl _)]
    exact ⟨_, _, rfl, rfl, w', S', jl', acts', pw', hX, hL', s1, t1⟩
theorem X_cent (h : CX np nr W H ru pg rd nl F lw D w S jl acts pw σ τ) (hL : LX sl σ τ) (hD : D < 2147483000) (hnp : 0 < np) {n : Nat} (hn : n ≤ 60) : ∃ σ' τ', fX9_centuries_w31 0 (nI n) 0 σ = some σ' ∧ fX10_centuries_w34 310 (nI n) 0 τ = some τ' ∧ ∃ w' S' jl' acts' pw', CX np nr W H ru pg rd nl F lw (D + n) w' S' jl' acts' pw' σ' τ' ∧ LX sl σ' τ' ∧ Sm sAc2 σ σ' ∧ Sm sAm2 τ τ' := by
  have g := h.g
  have g1 := g.1
  unfold fX9_centuries_w31 fX10_centuries_w34
  refine wh_two (fun i a c => a.1 = nI i ∧ c.1 = nI i ∧ ∃ w' S' jl' acts' pw', CX np nr W H ru pg rd nl F lw (D + i) w' S' jl' acts' pw' a.2 c.2 ∧ LX sl a.2 c.2 ∧ Sm sAc2 σ a.2 ∧ Sm sAm2 τ c.2) (fun b d => ∃ w' S' jl' acts' pw', CX np nr W H ru pg rd nl F lw (D + n) w' S' jl' acts' pw' b d ∧ LX sl b d ∧ Sm sAc2 σ b ∧ Sm sAm2 τ d) n BIG 0 _ _ (Nat.zero_le _) (by unfold BIG; omega) ⟨rfl, rfl, w, S, jl, acts, pw, h, hL, Sm.rf, Sm.rf⟩ ?_ ?_
  · rintro i ⟨j, σ1⟩ ⟨j2, τ1⟩ hi ⟨e1, e2, w', S', jl', acts', pw', hX, hL', s1, t1⟩
    simp only at e1 e2 hX hL' s1 t1
    subst e1 e2
    left
    have e6 : ¬ nI n ≤ nI i := fun z => absurd ((leT (by omega) (by omega)).mp z) (by omega)
    obtain ⟨σ2, τ2, k1, k2, w2, S2, jl2, acts2, pw2, k3, k4, k5, k6⟩ := X_day hX hL' (by omega) hnp (nI n) (nI n) (nI i) (nI i)
    obtain ⟨σ3, c1, c2, c3⟩ := C_night k3.1 (-1) (-1)
    obtain ⟨τ3, τ4, j1, j2, j3, j4, j5⟩ := M_night k3.mm g k3.S100 k3.wu k3.wz
    unfold fX9_centuries_l31 fX10_centuries_l34
    rw [if_neg e6, if_neg e6, k1, Option.bind_some, k2, Option.bind_some]
    dsimp only
    rw [c1, Option.bind_some, j1, Option.bind_some, j2, Option.bind_some, j3, Option.bind_some]
    refine ⟨_, _, rfl, rfl, nI_1 i, nI_1 i, _, _, _, _, _, k3.act c3 j5 (k3.wu.night g) (k3.wz.night g1) (Nat.le_succ _), k4.ac c2 j4, (s1.tr k5).tr (c2.mono (fun c k hc => (Bool.or_eq_false_iff.mp hc).1)), (t1.tr k6).tr (j4.mono (fun c k hc => (Bool.or_eq_false_iff.mp hc).1))⟩
  · rintro ⟨j, σ1⟩ ⟨j2, τ1⟩ ⟨e1, e2, w', S', jl', acts', pw', hX, hL', s1, t1⟩
    simp only at e1 e2 hX hL' s1 t1
    subst e1 e2
    unfold fX9_centuries_l31 fX10_centuries_l34
    rw [if_pos (Int32.le_refl _), if_pos (Int32.le_refl _)]
    exact ⟨_, _, rfl, rfl, w', S', jl', acts', pw', hX, hL', s1, t1⟩
/-- x lies in the bounds a .. b -/
theorem isInT {x : Int32} {a b : Nat} {τ : Mm} (h : ∃ k, a ≤ k ∧ k ≤ b ∧ x = nI k) (hb : b < 2147483648) : fX10_isIn (Int32.toInt64 x) (lN a) (lN b) τ = some 1 := by
  obtain ⟨k, h1, h2, rfl⟩ := h
  unfold fX10_isIn
  have c1 : ¬ lg_cmp (nI k).toInt64 (lN a) < 0 := by
    rw [nI_l (by omega)]
    unfold lg_cmp
    by_cases z : lN k > lN a
    · rw [if_pos z]; decide
    · rw [if_neg z]
      by_cases y : lN k = lN a
      · rw [if_pos y]; decide
      · exact absurd ((lN_lt (a := a) (b := k) (by omega) (by omega)).mpr (by
          have ne : ¬ k = a := fun e => y ((lN_eq (a := k) (b := a) (by omega) (by omega)).mpr e)
          omega)) z
  have c2 : ¬ 0 < lg_cmp (nI k).toInt64 (lN b) := by
    rw [nI_l (by omega)]
    unfold lg_cmp
    by_cases z : lN k > lN b
    · have := (lN_lt (a := b) (b := k) (by omega) (by omega)).mp z
      omega
    · rw [if_neg z]
      by_cases y : lN k = lN b
      · rw [if_pos y]; decide
      · rw [if_neg y]; decide
  rw [if_neg c1, if_neg c2]
theorem isInF {x : Int32} {a b : Nat} {τ : Mm} (h : ¬ ∃ k, a ≤ k ∧ k ≤ b ∧ x = nI k) (ha : a < 2147483648) (hb : b < 2147483648) : fX10_isIn (Int32.toInt64 x) (lN a) (lN b) τ = some 0 := by
  unfold fX10_isIn
  have e1 : x.toInt64.toInt = x.toInt := Int32.toInt_toInt64 x
  have e2 : (lN a).toInt = a := lN_toInt (by omega)
  have e3 : (lN b).toInt = b := lN_toInt (by omega)
  by_cases q1 : x.toInt < a
  · have : lg_cmp x.toInt64 (lN a) = -1 := by
      unfold lg_cmp
      rw [if_neg (by show ¬ lN a < _; rw [Int64.lt_iff_toInt_lt]; omega), if_neg (fun z => by rw [z] at e1; omega)]
    rw [this, if_pos (by decide)]
  · by_cases q2 : (b : Int) < x.toInt
    · have : lg_cmp x.toInt64 (lN b) = 1 := by
        unfold lg_cmp
        rw [if_pos (by show lN b < _; rw [Int64.lt_iff_toInt_lt]; omega)]
      rw [this, if_pos (show (0 : Int32) < 1 by decide)]
      split <;> rfl
    · exfalso
      apply h
      obtain ⟨k, hk, e⟩ := nI_of (x := x) (fun z => by
        rw [Int32.lt_iff_toInt_lt] at z
        have : (0 : Int32).toInt = 0 := rfl
        omega)
      have ek : x.toInt = k := by rw [e, nI_toI (by omega)]
      exact ⟨k, by omega, by omega, e⟩
theorem CM.cx (h : CM np nr W H ru pg rd nl F lw D w S jl acts pw σ) : CX np nr W H ru pg rd nl F lw D w S jl acts pw σ σ := h
theorem sAm2_hi {c k : Nat} (h : c < 310) : sAm2 c k = false := by
  unfold sAm2; rw [sAm_hi h, Bool.false_or, Bool.and_eq_false_imp]
  intro z; exact absurd (beq_iff_eq.mp z) (by omega)
theorem sAc2_hi {c k : Nat} (h : 310 ≤ c) : sAc2 c k = false := by
  unfold sAc2; rw [sAc_hi h, Bool.false_or, Bool.and_eq_false_imp]
  intro z; exact absurd (beq_iff_eq.mp z) (by omega)
theorem sAA_c2 {c k : Nat} (h : sAA c k = false) : sAc2 c k = false := by
  unfold sAA at h; unfold sAc2
  simp only [Bool.or_eq_false_iff] at h ⊢
  exact ⟨h.1.1.1.1, h.2⟩
theorem sAA_m2 {c k : Nat} (h : sAA c k = false) : sAm2 c k = false := by
  unfold sAA at h; unfold sAm2
  simp only [Bool.or_eq_false_iff] at h ⊢
  exact ⟨h.1.1.1.2, h.1.2⟩
theorem W_cent (h : CM np nr W H ru pg rd nl F lw D w S jl acts pw σ) (hD : D < 2147483000) (hnp : 0 < np) (e1 : gI σ 0 17 = nI sl) (e2 : gI σ 310 37 = nI sl) (hsl : sl < 100) (x : Int32) (s : Int64) : WK np nr W H ru pg rd nl F lw D σ (fX9_centuries 0 x s σ) (fX10_centuries 310 x s) := by
  have g := h.g
  have g1 := g.1
  unfold fX9_centuries
  rw [h.rf.hall, Option.bind_some, c_isOpen g h.hc, Option.bind_some, if_pos hnp, if_neg z1]
  have e27 : ∀ {τ : Mm}, MM τ np nr W H ru pg rd nl F lw w S jl acts pw → gI (sI τ 310 0 0) 310 27 = nI np := fun hM => hM.thr.1.hm.2.2.1
  by_cases hx : ∃ k, 1 ≤ k ∧ k ≤ 60 ∧ x = nI k
  · have hin : ∀ τ, fX10_isIn (Int32.toInt64 x) 1 60 τ = some 1 := fun τ => isInT (a := 1) (b := 60) hx (by omega)
    obtain ⟨n, hn1, hn2, rfl⟩ := hx
    have a1 : ¬ nI n < 1 := fun z => absurd ((ltT (b := 1) (by omega) (by omega)).mp z) (by omega)
    have a2 : nI n ≤ 60 := (leT (b := 60) (by omega) (by omega)).mpr (by omega)
    rw [if_neg a1, if_pos a2]
    -- the class first, beside any memory of the model's
    have hX0 : CX np nr W H ru pg rd nl F lw D w S jl acts pw (sL σ 0 18 s) (sL (sI σ 310 0 0) 310 43 s) := ⟨h.1.dr s, h.mm.thr.dr s, h.2.2⟩
    have hL0 : LX sl (sL σ 0 18 s) (sL (sI σ 310 0 0) 310 43 s) := ⟨by rw [gL_sL, gL_sL, if_pos ⟨rfl, rfl⟩, if_pos ⟨rfl, rfl⟩], e1, e2, hsl⟩
    obtain ⟨σ1, τ1, k1, -, w1, S1, jl1, acts1, pw1, k3, -, k5, -⟩ := X_cent hX0 hL0 hD hnp hn2
    have s1 : Sm sAc2 σ σ1 := (Sm.rf.sL (S := sAc2) rfl).tr k5
    have hM1 : MM (sI σ1 310 0 0) np nr W H ru pg rd nl F lw w S jl acts pw := (h.mm.sm s1 (fun c k hc => sAc2_hi (kMM_hi hc)) (fun k => ⟨sAc2_hi (by omega), sAc2_hi (by omega)⟩)).thr
    -- now the model, behind the class
    have hX1 : CX np nr W H ru pg rd nl F lw D w S jl acts pw (sL σ 0 18 s) (sL (sI σ1 310 0 0) 310 43 s) := ⟨h.1.dr s, hM1.dr s, h.2.2⟩
    have hL1 : LX sl (sL σ 0 18 s) (sL (sI σ1 310 0 0) 310 43 s) := ⟨by rw [gL_sL, gL_sL, if_pos ⟨rfl, rfl⟩, if_pos ⟨rfl, rfl⟩], e1, by
      show gI (sI σ1 310 0 0) 310 37 = nI sl
      rw [gI_sI, if_neg (by omega), s1.1 310 37 (sAc2_hi (by omega))]; exact e2, hsl⟩
    obtain ⟨σ2, τ2, j1, j2, w2, S2, jl2, acts2, pw2, j3, j4, j5, j6⟩ := X_cent hX1 hL1 hD hnp hn2
    rw [k1] at j1
    have e12 := Option.some.inj j1
    subst e12
    rw [k1, Option.bind_some]
    dsimp only
    rw [k3.rf.now, Option.bind_some]
    have t1 : Sm sAA σ τ2 := (((s1.mono (fun c k hc => sAA_c2 hc)).sI rfl).sL rfl).tr (j6.mono (fun c k hc => sAA_m2 hc))
    have t2 : Sm (fun c k => sAm2 c k || sT c k) σ1 τ2 := ((Sm.rf.sI (S := fun c k => sAm2 c k || sT c k) rfl).sL rfl).tr (j6.mono (fun c k hc => (Bool.or_eq_false_iff.mp hc).1))
    refine ⟨_, σ1, τ2, rfl, ?_, D + n, w2, S2, jl2, acts2, pw2, ⟨j3.1.ag t2 (fun c k hc _ _ _ _ _ => by rw [sAm2_hi hc, Bool.false_or]; unfold sT; simp; omega), j3.2⟩, t1, by omega⟩
    unfold fX10_centuries
    rw [hM1.1.hm.2.2.1, if_neg (nI_ne0 hnp (by omega)), hin, Option.bind_some, if_neg z1, j2, Option.bind_some]
    dsimp only
    rw [j3.mm.r33, Option.bind_some, ln323, if_pos (by decide), show Int32.toNatClampNeg 109 = 109 from by decide, j3.mm.2.1 109 (by omega), j3.sc.2.2.2.2.2.1]
  · have hin : ∀ τ, fX10_isIn (Int32.toInt64 x) 1 60 τ = some 0 := fun τ => isInF (a := 1) (b := 60) hx (by omega) (by omega)
    have hm : ∀ {τ : Mm}, MM τ np nr W H ru pg rd nl F lw w S jl acts pw → fX10_centuries 310 x s τ = some (-1, sI τ 310 0 0) := fun hM => by
      unfold fX10_centuries
      rw [e27 hM, if_neg (nI_ne0 hnp (by omega)), hin, Option.bind_some, if_pos rfl]
    refine WK.non h ?_ (hm h.mm)
    by_cases a1 : x < 1
    · rw [if_pos a1]
    · rw [if_neg a1]
      by_cases a2 : x ≤ 60
      · exfalso
        obtain ⟨k, hk, e⟩ := nI_of (x := x) (fun z => a1 (Int32.lt_trans z (by decide)))
        rw [e] at a1 a2
        exact hx ⟨k, by
          have ne : ¬ k < 1 := fun z => a1 ((ltT (b := 1) (by omega) (by omega)).mpr z)
          omega, (leT (b := 60) (by omega) (by omega)).mp a2, e⟩
      · rw [if_neg a2]
end Cent
