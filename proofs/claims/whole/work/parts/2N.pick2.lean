/-! quiet, places, the likeliest -/
section CCs
variable {σ τ : Mm} {D np nr W H S acts nl : Nat} {ru pg rd w : Nat → Int32} {F : Nat → LF} {lw : Option LF} {jl pw : Nat → Nat → Int32}
theorem CC.rf (h : CC σ np nr W H ru pg rd lw w S jl acts pw) : RF σ := h.1
theorem CC.g (h : CC σ np nr W H ru pg rd lw w S jl acts pw) : HB np nr W H ru pg rd := h.2.1
theorem CC.hc (h : CC σ np nr W H ru pg rd lw w S jl acts pw) : HC σ 3 np nr ru pg rd := h.2.2.1
theorem CC.hl (h : CC σ np nr W H ru pg rd lw w S jl acts pw) : LW σ lw := h.2.2.2.1
theorem CC.sc (h : CC σ np nr W H ru pg rd lw w S jl acts pw) : SC σ 89 w := h.2.2.2.2.1
theorem CC.cq {σ' : Mm} (h : CC σ np nr W H ru pg rd lw w S jl acts pw) (s : Sm sCq σ σ') : CC σ' np nr W H ru pg rd lw w S jl acts pw := h.ag s (fun c k h0 h1 h2 h3 h4 _ => sQQ_c (sQQ_C c k h0 h1 h2 h3 h4))
theorem MM.mq {τ' : Mm} (h : MM τ np nr W H ru pg rd nl F lw w S jl acts pw) (s : Sm sMq τ τ') (hE : ME τ' np nr W H ru pg rd nl F lw) : MM τ' np nr W H ru pg rd nl F lw w S jl acts pw := h.smK hE s (fun c k hc => sQQ_m (sQQ_kMM c k hc))
theorem Sm.cq {a b : Mm} (h : Sm scr a b) : Sm sCq a b := h.mono (fun c k hc => sCq_r hc)
theorem Sm.mq {a b : Mm} (h : Sm sK a b) : Sm sMq a b := h.mono (fun c k hc => sMq_K hc)
theorem C_loss (h : CC σ np nr W H ru pg rd lw w S jl acts pw) {r : Nat} (hr : r < nr) (c : Int32) : ∃ σ', fX8_lossIn 11 89 (nI r) c σ = some (sLoss (sMel lw nr ru pg rd w r c) w np, σ') ∧ Sm sCq σ σ' := by
  obtain ⟨τ, k1, k2⟩ := c_lossIn h.g h.hc h.rf.wr h.rf.sr89 h.sc h.hl SB89 hr c
  exact ⟨τ, k1, k2.cq⟩
theorem M_loss (h : MM τ np nr W H ru pg rd nl F lw w S jl acts pw) (g : HB np nr W H ru pg rd) (hB : WU D w) (hD : D < 2147483648) {r c : Nat} (hr : r < nr) (hc : c < 30) : ∃ τ', fX10_lossAt 310 323 (nI r) (nI c) τ = some (sLoss (sMel lw nr ru pg rd w r (nI c)) w np, τ') ∧ Sm sMq τ τ' ∧ MM τ' np nr W H ru pg rd nl F lw w S jl acts pw := by
  obtain ⟨τ2, j1, j2, j3⟩ := m_lossAt (c := c) g h.1 (Or.inl rfl) h.2.1 hB hD hr hc
  exact ⟨τ2, j1, j2.mq, h.mq j2.mq j3⟩
theorem c01_t {α : Type} {y : Int32} {A B : α} (hy : ∃ k, 0 ≤ k ∧ k ≤ 1 ∧ y = nI k) : (if y < 0 then A else if y ≤ 1 then B else A) = B := by
  obtain ⟨k, -, hk, rfl⟩ := hy
  rw [if_neg (nI_pos (by omega)), if_pos (show nI k ≤ 1 from (leT (b := 1) (by omega) (by omega)).mpr hk)]
theorem c01_f {α : Type} {y : Int32} {A B : α} (hy : ¬ ∃ k, 0 ≤ k ∧ k ≤ 1 ∧ y = nI k) : (if y < 0 then A else if y ≤ 1 then B else A) = A := by
  rcases i32_out (N := 2) (by omega) (nin2 hy) with h | ⟨h, h2⟩
  · rw [if_pos h]
  · rw [if_neg h, if_neg (fun z => absurd (Int32.le_trans h2 z) (by decide))]
theorem np_of {r : Nat} (g : HB np nr W H ru pg rd) (hr : r < nr) : 0 < np := by
  rcases Nat.eq_zero_or_pos np with h | h
  · have := (g.2.2.2.2.2.2.2.1 h).1; omega
  · exact h
theorem WH_pos (g : HB np nr W H ru pg rd) (hnp : 0 < np) : 1 ≤ W * H := by
  have := g.2.2.2.2.2.2.1 hnp
  exact Nat.mul_pos this.1 this.2.1
theorem Q_quiet (h : CM np nr W H ru pg rd nl F lw D w S jl acts pw σ) (hD : D < 2147483000) (x y : Int32) : WQ np nr W H ru pg rd nl F lw σ (fX9_quiet 0 x y σ) (fX10_quiet 310 x y) := by
  have g := h.g
  have g1 := g.1
  have g2 := g.2.1
  have hWH := WH_lt g
  refine WQ.two (m' := fun s => (fX10_isReader 310 x s).bind fun vk1 => if vk1 = 0 then some ((-1), s) else (fX10_isIn (Int32.toInt64 y) 0 1 s).bind fun vk3 => if vk3 = 0 then some ((-1), s) else (fX10_quiet_w33 310 x y (-1) 0 0 s).bind (fun o10 => (fun xo10_3 xo10_4 so10 => if y = 0 then some (xo10_3, so10) else some (xo10_4, so10)) o10.1 o10.2.1 o10.2.2)) h (fun s => rfl) (fun τ hM => ?_)
  unfold fX9_quiet
  rw [h.rf.hall, Option.bind_some]
  by_cases hx : ∃ p, p < nr ∧ x = nI p
  · obtain ⟨r, hr, rfl⟩ := hx
    have hnp := np_of g hr
    have hWp := WH_pos g hnp
    simp only [c_hasReader g h.hc hr, m_isReader g hM.1.hm hr, Option.bind_some, if_neg z1]
    rcases in4 (x := y) (n := 1) with hy | hy
    · have hin : fX10_isIn (Int32.toInt64 y) 0 1 τ = some 1 := isInT (a := 0) (b := 1) hy (by omega)
      rw [c01_t hy, hin]
      simp only [Option.bind_some, if_neg z1, h.rf.win, h.rf.now]
      let Lf : Nat → Int32 := fun c => sLoss (sMel lw nr ru pg rd w r (nI c)) w np
      let bt : Nat → Nat → Bool := fun i b => decide (Lf i < Lf b)
      obtain ⟨σ1, k1, k2⟩ := C_loss h.1 hr (nI 0)
      have k1' : fX8_lossIn 11 89 (nI r) 0 σ = some (Lf 0, σ1) := k1
      rw [k1', bnd2_some]
      have keyC : ∃ b, fX9_quiet_w42 0 (nI r) y 0 (Lf 0) 1 σ1 = some b ∧ (b.1 = nI (apk bt (W * H - 1)) ∧ b.2.1 = Lf (apk bt (W * H - 1)) ∧ Sm sCq σ b.2.2) := by
        unfold fX9_quiet_w42
        refine wh_inv (fun i a => a.1 = nI (apk bt i) ∧ a.2.1 = Lf (apk bt i) ∧ a.2.2.1 = nI (i + 1) ∧ Sm sCq σ a.2.2.2) _ (W * H - 1) BIG 0 _ (Nat.zero_le _) (by unfold BIG; omega) ⟨rfl, rfl, rfl, k2⟩ ?_ ?_
        · rintro i ⟨a, l, j, s⟩ hi ⟨e1, e2, e3, e4⟩
          simp only at e1 e2 e3 e4
          subst e1 e2 e3
          left
          have hC := h.1.cq e4
          obtain ⟨s2, q1, q2⟩ := C_loss hC hr (nI (i + 1))
          have e6 : ¬ nI (W * H) ≤ nI (i + 1) := fun z => absurd ((leT (by omega) (by omega)).mp z) (by omega)
          unfold fX9_quiet_l42 fX9_quiet_b84
          simp only [hC.rf.hall, hC.rf.win, hC.rf.now, Option.bind_some, c_cells g hC.hc, if_neg e6, q1, bnd2_some, nI_1]
          by_cases q : Lf (i + 1) < Lf (apk bt i)
          · rw [if_neg (Int32.not_le.mpr q)]
            refine ⟨_, rfl, ?_, ?_, rfl, e4.tr q2⟩
            · dsimp only; rw [apk_s, if_pos (decide_eq_true q)]
            · dsimp only; rw [apk_s, if_pos (decide_eq_true q)]
          · rw [if_pos (Int32.not_lt.mp q)]
            refine ⟨_, rfl, ?_, ?_, rfl, e4.tr q2⟩
            · dsimp only; rw [apk_s, if_neg (by simpa [bt] using q)]
            · dsimp only; rw [apk_s, if_neg (by simpa [bt] using q)]
        · rintro ⟨a, l, j, s⟩ ⟨e1, e2, e3, e4⟩
          simp only at e1 e2 e3 e4
          subst e1 e2 e3
          have hC := h.1.cq e4
          unfold fX9_quiet_l42
          simp only [hC.rf.hall, Option.bind_some, c_cells g hC.hc, show W * H - 1 + 1 = W * H by omega, if_pos (Int32.le_refl _)]
          exact ⟨_, rfl, rfl, rfl, e4⟩
      have keyM : ∃ b, fX10_quiet_w33 310 (nI r) y (-1) 0 0 τ = some b ∧ (b.1 = nI (apk bt (W * H - 1)) ∧ b.2.1 = Lf (apk bt (W * H - 1)) ∧ Sm sMq τ b.2.2 ∧ ME b.2.2 np nr W H ru pg rd nl F lw) := by
        unfold fX10_quiet_w33
        refine wh_inv (fun i a => (i = 0 ∧ a.1 = -1 ∨ 0 < i ∧ a.1 = nI (apk bt (i - 1)) ∧ a.2.1 = Lf (apk bt (i - 1))) ∧ a.2.2.1 = nI i ∧ Sm sMq τ a.2.2.2 ∧ MM a.2.2.2 np nr W H ru pg rd nl F lw w S jl acts pw) _ (W * H) BIG 0 _ (Nat.zero_le _) (by unfold BIG; omega) ⟨Or.inl ⟨rfl, rfl⟩, rfl, Sm.rf, hM⟩ ?_ ?_
        · rintro i ⟨a, l, j, s⟩ hi ⟨e1, e2, e3, e4⟩
          simp only at e1 e2 e3 e4
          subst e2
          left
          obtain ⟨s2, q1, q2, q3⟩ := M_loss (c := i) e4 g h.wu (by omega) hr (by omega)
          have e6 : ¬ nI (W * H) ≤ nI i := fun z => absurd ((leT (by omega) (by omega)).mp z) (by omega)
          unfold fX10_quiet_l33 fX10_quiet_b70 fX10_quiet_b77
          simp only [e4.1.hm.2.1, if_neg e6, e4.r33, Option.bind_some, q1, bnd2_some, nI_1]
          rcases e1 with ⟨rfl, rfl⟩ | ⟨h0, rfl, rfl⟩
          · rw [if_pos rfl]
            exact ⟨_, rfl, Or.inr ⟨by omega, rfl, rfl⟩, rfl, e3.tr q2, q3⟩
          · have hle := apk_le bt (i - 1)
            rw [if_neg (fun z => (eqN1 (by omega)).mp z)]
            have es : apk bt i = if bt i (apk bt (i - 1)) = true then i else apk bt (i - 1) := by
              have := apk_s bt (i - 1)
              rwa [show i - 1 + 1 = i by omega] at this
            by_cases q : Lf i < Lf (apk bt (i - 1))
            · rw [if_pos q]
              rw [if_pos (decide_eq_true q)] at es
              exact ⟨_, rfl, Or.inr ⟨by omega, by rw [Nat.add_sub_cancel, es], by rw [Nat.add_sub_cancel, es]⟩, rfl, e3.tr q2, q3⟩
            · rw [if_neg q]
              rw [if_neg (by simpa [bt] using q)] at es
              exact ⟨_, rfl, Or.inr ⟨by omega, by rw [Nat.add_sub_cancel, es], by rw [Nat.add_sub_cancel, es]⟩, rfl, e3.tr q2, q3⟩
        · rintro ⟨a, l, j, s⟩ ⟨e1, e2, e3, e4⟩
          simp only at e1 e2 e3 e4
          subst e2
          unfold fX10_quiet_l33
          simp only [e4.1.hm.2.1, if_pos (Int32.le_refl _)]
          rcases e1 with ⟨h0, -⟩ | ⟨h0, rfl, rfl⟩
          · omega
          · exact ⟨_, rfl, rfl, rfl, e3, e4.1⟩
      obtain ⟨⟨b1, b2, b3⟩, p1, rfl, rfl, p4⟩ := keyC
      obtain ⟨⟨d1, d2, d3⟩, o1, rfl, rfl, o4, o5⟩ := keyM
      simp only at p4 o4 o5
      rw [p1, o1]
      simp only [Option.bind_some]
      by_cases q : y = 0
      · rw [if_pos q, if_pos q]; exact ⟨_, _, _, rfl, rfl, p4, o4, o5⟩
      · rw [if_neg q, if_neg q]; exact ⟨_, _, _, rfl, rfl, p4, o4, o5⟩
    · have hin : fX10_isIn (Int32.toInt64 y) 0 1 τ = some 0 := isInF (a := 0) (b := 1) hy (by omega) (by omega)
      rw [c01_f hy, hin]
      simp only [Option.bind_some, if_true]
      exact ⟨_, _, _, rfl, rfl, Sm.rf, Sm.rf, hM.1⟩
  · simp only [c_hasReader_out g h.hc hx, m_isReader_out g hM.1.hm hx, Option.bind_some, if_true]
    exact ⟨_, _, _, rfl, rfl, Sm.rf, Sm.rf, hM.1⟩
/-! the best of several, without memory -/
theorem pick_c {f : Int32 × Int32 → Option ((Int32 × Int32) ⊕ Int32)} {bt : Nat → Nat → Bool} {n : Nat} (hn : 1 ≤ n) (hN : n < 1000000) (hs : ∀ i b, b < n → i < n → f (nI b, nI i) = some (.inl (if bt i b = true then nI i else nI b, nI (i + 1)))) (he : ∀ b, b < n → f (nI b, nI n) = some (.inr (nI b))) : wh f BIG (0, 1) = some (nI (apk bt (n - 1))) := by
  obtain ⟨b, e, hb⟩ := wh_inv (f := f) (fun i a => a.1 = nI (apk bt i) ∧ a.2 = nI (i + 1)) (fun b => b = nI (apk bt (n - 1))) (n - 1) BIG 0 (0, 1) (Nat.zero_le _) (by unfold BIG; omega) ⟨rfl, rfl⟩ (by
    rintro i ⟨a, j⟩ hi ⟨e1, e2⟩
    simp only at e1 e2
    subst e1 e2
    have hle := apk_le bt i
    left
    refine ⟨_, hs (i + 1) (apk bt i) (by omega) (by omega), ?_, rfl⟩
    dsimp only
    rw [apk_s]
    split <;> rfl) (by
    rintro ⟨a, j⟩ ⟨e1, e2⟩
    simp only at e1 e2
    subst e1 e2
    have hle := apk_le bt (n - 1)
    exact ⟨_, by rw [show n - 1 + 1 = n by omega]; exact he _ (by omega), rfl⟩)
  rw [e, hb]
theorem pick_m {f : Int32 × Int32 × Int32 → Option ((Int32 × Int32 × Int32) ⊕ (Int32 × Int32))} {bt : Nat → Nat → Bool} {L : Nat → Int32} {z : Int32} {n : Nat} (hn : 1 ≤ n) (hN : n < 1000000) (h0 : f (-1, z, nI 0) = some (.inl (nI 0, L 0, nI 1))) (hs : ∀ i b, b < n → i < n → f (nI b, L b, nI i) = some (.inl (if bt i b = true then nI i else nI b, if bt i b = true then L i else L b, nI (i + 1)))) (he : ∀ b, b < n → f (nI b, L b, nI n) = some (.inr (nI b, L b))) : wh f BIG (-1, z, 0) = some (nI (apk bt (n - 1)), L (apk bt (n - 1))) := by
  obtain ⟨b, e, hb⟩ := wh_inv (f := f) (fun i a => (i = 0 ∧ a = (-1, z, nI 0)) ∨ (0 < i ∧ a = (nI (apk bt (i - 1)), L (apk bt (i - 1)), nI i))) (fun b => b = (nI (apk bt (n - 1)), L (apk bt (n - 1)))) n BIG 0 (-1, z, 0) (Nat.zero_le _) (by unfold BIG; omega) (Or.inl ⟨rfl, rfl⟩) (by
    rintro i a hi (⟨rfl, rfl⟩ | ⟨hp, rfl⟩)
    · left
      exact ⟨_, h0, Or.inr ⟨by omega, rfl⟩⟩
    · left
      have hle := apk_le bt (i - 1)
      refine ⟨_, hs i _ (by omega) hi, Or.inr ⟨by omega, ?_⟩⟩
      have es : apk bt i = if bt i (apk bt (i - 1)) = true then i else apk bt (i - 1) := by
        have := apk_s bt (i - 1)
        rwa [show i - 1 + 1 = i by omega] at this
      rw [Nat.add_sub_cancel, es]
      split <;> rfl) (by
    rintro a (⟨h1, -⟩ | ⟨hp, rfl⟩)
    · omega
    · have hle := apk_le bt (n - 1)
      exact ⟨_, he _ (by omega), rfl⟩)
  rw [e, hb]
def sNst (np : Nat) (ru pg w : Nat → Int32) (p : Nat) (c : Int32) : Int32 := fo (fun k acc => if k = p then acc else if w (2 * k) ≤ 0 then acc else if acc = -1 then sAp ru c (pg (4 * k)) else minI acc (sAp ru c (pg (4 * k)))) (-1) np
theorem c_nearest (hC : CC σ np nr W H ru pg rd lw w S jl acts pw) (hnp : 0 < np) {p : Nat} (hp : p < np) (c : Int32) : fX0_stepsToOthers 13 89 (nI p) c σ = some (sNst np ru pg w p c) := by
  have g := hC.g
  have g1 := g.1
  obtain ⟨f0, f1, -⟩ := fin0 hC.rf
  have c89 := hC.rf.sr89
  unfold fX0_stepsToOthers fX0_stepsToOthers_w6
  have key : wh (fun a : Int32 × Int32 => fX0_stepsToOthers_l6 13 89 (nI p) c a.1 a.2 σ) BIG (-1, 0) = some (sNst np ru pg w p c) := by
    refine wh_run (fun i => (fo (fun k acc => if k = p then acc else if w (2 * k) ≤ 0 then acc else if acc = -1 then sAp ru c (pg (4 * k)) else minI acc (sAp ru c (pg (4 * k)))) (-1) i, nI i)) np rfl (BIG_lt (by omega)) (fun i hi => ?_) ?_
    · unfold fX0_stepsToOthers_l6 fX0_stepsToOthers_b71 fX0_stepsToOthers_b73
      have e6 : ¬ nI np ≤ nI i := fun z => absurd ((leT (by omega) (by omega)).mp z) (by omega)
      rw [fo_succ]
      generalize fo _ (-1) i = acc
      simp only [f0, Option.bind_some, hC.hc.2.2.2.2.2.2.1, if_neg e6, eqT (show i < 2147483648 by omega) (show p < 2147483648 by omega), c89.1, c89.2.2.2.2.1, ixT (show i < 12 by omega) (by omega), if_true, clT (show i < 2147483648 by omega), hC.sc.1 i (by omega), c_pageCell g hC.hc hi, c_steps g hC.hc hnp, nI_1]
      by_cases q : i = p
      · simp only [if_pos q]
      · simp only [if_neg q]
        by_cases q2 : w (2 * i) ≤ 0
        · simp only [if_pos q2]
        · simp only [if_neg q2]
          split <;> rfl
    · unfold fX0_stepsToOthers_l6
      simp only [f0, Option.bind_some, hC.hc.2.2.2.2.2.2.1, if_pos (Int32.le_refl _)]
      rfl
  rw [key]; rfl
theorem Q_placeFor (h : CM np nr W H ru pg rd nl F lw D w S jl acts pw σ) (x y : Int32) : WV np nr W H ru pg rd nl F lw σ (fX9_placeFor 0 x y σ) (fX10_placeFor 310 x y σ) := by
  have g := h.g
  have g1 := g.1
  have g2 := g.2.1
  have hWH := WH_lt g
  have hM := h.mm.thr
  unfold fX9_placeFor fX10_placeFor
  rw [h.rf.hall, Option.bind_some]
  by_cases hx : ∃ p, p < np ∧ x = nI p
  · obtain ⟨p, hp, rfl⟩ := hx
    have hnp : 0 < np := by omega
    have hWp := WH_pos g hnp
    rw [c_hasPage g h.hc hp, m_isPage g hM.1.hm hp]
    simp only [Option.bind_some, if_neg z1]
    rcases in4 (x := y) (n := 1) with hy | hy
    · have hin : fX10_isIn (Int32.toInt64 y) 0 1 (sI σ 310 0 0) = some 1 := isInT (a := 0) (b := 1) hy (by omega)
      rw [c01_t hy, hin]
      simp only [Option.bind_some, if_neg z1]
      let L : Nat → Int32 := fun c => sNst np ru pg w p (nI c)
      let bt : Nat → Nat → Bool := fun i b => decide (L b < L i)
      have keyC : fX9_placeFor_w27 0 (nI p) y 0 1 σ = some (nI (apk bt (W * H - 1))) := by
        unfold fX9_placeFor_w27
        refine pick_c (n := W * H) hWp (by omega) (fun i b hb hi => ?_) (fun b hb => ?_)
        · have e6 : ¬ nI (W * H) ≤ nI i := fun z => absurd ((leT (by omega) (by omega)).mp z) (by omega)
          unfold fX9_placeFor_l27 fX9_placeFor_b72
          simp only [h.rf.hall, Option.bind_some, c_cells g h.hc, if_neg e6, h.rf.fin, h.rf.now, c_nearest h.1 hnp hp, nI_1]
          by_cases q : L b < L i
          · rw [if_neg (Int32.not_le.mpr q), if_pos (decide_eq_true q)]
          · rw [if_pos (Int32.not_lt.mp q), if_neg (by simpa [bt] using q)]
        · unfold fX9_placeFor_l27
          simp only [h.rf.hall, Option.bind_some, c_cells g h.hc, if_pos (Int32.le_refl _)]
      have inn : ∀ a3 a4 c, c < W * H → fX10_placeFor_w48 310 (nI p) y a3 a4 (nI c) (-1) 0 (sI σ 310 0 0) = some (L c) := by
        intro a3 a4 c hc
        unfold fX10_placeFor_w48
        refine wh_run (fun i => (fo (fun k acc => if k = p then acc else if w (2 * k) ≤ 0 then acc else if acc = -1 then sAp ru (nI c) (pg (4 * k)) else minI acc (sAp ru (nI c) (pg (4 * k)))) (-1) i, nI i)) np rfl (BIG_lt (by omega)) (fun i hi => ?_) ?_
        · obtain ⟨a1, a2, a3⟩ := m_pg (k := 0) hM.1.hm g1 hi (by omega)
          rw [Nat.add_zero] at a2 a3
          unfold fX10_placeFor_l48 fX10_placeFor_b101 fX10_placeFor_b118
          have e6 : ¬ nI np ≤ nI i := fun z => absurd ((leT (by omega) (by omega)).mp z) (by omega)
          rw [fo_succ]
          generalize fo _ (-1) i = acc
          simp only [hM.1.hm.2.2.1, if_neg e6, eqT (show i < 2147483648 by omega) (show p < 2147483648 by omega), hM.r33, Option.bind_some, i2p, ln323, ixT (show 2 * i < 351 by omega) (by omega), if_true, clT (show 2 * i < 2147483648 by omega), hM.2.1 (2 * i) (by omega), a1, i4p, a2, clT (show 4 * i < 2147483648 by omega), a3, m_apart g hM.1.hm hnp, nI_1]
          by_cases q : i = p
          · simp only [if_pos q]
          · simp only [if_neg q]
            by_cases q2 : w (2 * i) ≤ 0
            · simp only [if_pos q2]
            · simp only [if_neg q2]
              by_cases q3 : acc = -1
              · simp only [if_pos q3]
              · simp only [if_neg q3]
                unfold minI
                by_cases q4 : sAp ru (nI c) (pg (4 * i)) < acc
                · rw [if_neg (Int32.not_le.mpr q4), if_pos q4]
                · rw [if_pos (Int32.not_lt.mp q4), if_neg q4]
        · unfold fX10_placeFor_l48
          simp only [hM.1.hm.2.2.1, if_pos (Int32.le_refl _)]
          rfl
      have keyM : fX10_placeFor_w33 310 (nI p) y (-1) (-1) 0 (sI σ 310 0 0) = some (nI (apk bt (W * H - 1)), L (apk bt (W * H - 1))) := by
        unfold fX10_placeFor_w33
        refine pick_m (n := W * H) hWp (by omega) ?_ (fun i b hb hi => ?_) (fun b hb => ?_)
        · have e6 : ¬ nI (W * H) ≤ nI 0 := fun z => absurd ((leT (by omega) (by omega)).mp z) (by omega)
          unfold fX10_placeFor_l33 fX10_placeFor_b139 fX10_placeFor_b146
          simp only [hM.1.hm.2.1, if_neg e6, inn _ _ 0 (by omega), Option.bind_some, if_true, nI_1]
        · have e6 : ¬ nI (W * H) ≤ nI i := fun z => absurd ((leT (by omega) (by omega)).mp z) (by omega)
          have nb : ¬ nI b = -1 := fun z => (eqN1 (by omega)).mp z
          unfold fX10_placeFor_l33 fX10_placeFor_b139 fX10_placeFor_b146
          simp only [hM.1.hm.2.1, if_neg e6, inn _ _ i hi, Option.bind_some, if_neg nb, nI_1]
          by_cases q : L b < L i
          · rw [if_pos q, if_pos (decide_eq_true q), if_pos (decide_eq_true q)]
          · rw [if_neg q, if_neg (by simpa [bt] using q), if_neg (by simpa [bt] using q)]
        · unfold fX10_placeFor_l33
          simp only [hM.1.hm.2.1, if_pos (Int32.le_refl _)]
      rw [keyC, keyM]
      simp only [Option.bind_some, h.rf.fin, h.rf.now, c_nearest h.1 hnp hp]
      by_cases q : y = 0
      · rw [if_pos q, if_pos q]; exact WV.t h rfl rfl
      · rw [if_neg q, if_neg q]; exact WV.t h rfl rfl
    · have hin : fX10_isIn (Int32.toInt64 y) 0 1 (sI σ 310 0 0) = some 0 := isInF (a := 0) (b := 1) hy (by omega) (by omega)
      rw [c01_f hy, hin]
      exact WV.t h rfl rfl
  · rw [c_hasPage_out g h.hc hx, m_isPage_out g hM.1.hm hx]
    exact WV.t h rfl rfl
theorem turn_sym : ∀ a, a < 10 → ∀ b, b < 10 → ∀ s t, fX0_turn (nI a) (nI b) s = some (minI (absI (nI b - nI a)) (10 - absI (nI b - nI a))) ∧ fX10_turns (nI b) (nI a) t = some (minI (absI (nI b - nI a)) (10 - absI (nI b - nI a))) := by
  have key : ∀ a, a < 10 → ∀ b, b < 10 → absI (nI a - nI b) = absI (nI b - nI a) := by decide +kernel
  intro a ha b hb s t
  unfold fX0_turn fX10_turns
  rw [key a ha b hb]
  exact ⟨rfl, rfl⟩
def sTu (a b : Int32) : Int32 := minI (absI (b - a)) (10 - absI (b - a))
def sApt (nr : Nat) (w : Nat → Int32) (p : Nat) (v : Int32) : Int32 := fo (fun r acc => if w (26 + 14 * r + p) = 0 then acc + 0 else acc + sTu (w (26 + 14 * r + p) - 1) v) (if w (2 * p) ≤ 0 then 0 else sTu (w (2 * p + 1)) v) nr
theorem mem_ok (hB : WU D w) {r p : Nat} (hr : r < 6) (hp : p < 12) (h0 : ¬ w (26 + 14 * r + p) = 0) : ∃ k, k < 10 ∧ w (26 + 14 * r + p) - 1 = nI k := by
  obtain ⟨n, hn, e⟩ := hB (26 + 14 * r + p) (by omega)
  rw [ub_mem hr hp] at hn
  rcases Nat.eq_zero_or_pos n with rfl | h1
  · exact absurd e h0
  · refine ⟨n - 1, by omega, ?_⟩
    rw [e]
    have : nI n = nI (n - 1) + 1 := by rw [nI_1]; congr 1; omega
    rw [this]
    exact add1_sub1 _
theorem says_ok (hB : WU D w) {p : Nat} (hp : p < 12) : ∃ k, k < 10 ∧ w (2 * p + 1) = nI k := by
  obtain ⟨n, hn, e⟩ := hB (2 * p + 1) (by omega)
  rw [ub_dp (by omega)] at hn
  exact ⟨n, by omega, e⟩
theorem c_apart (hC : CC σ np nr W H ru pg rd lw w S jl acts pw) (hB : WU D w) {p v : Nat} (hp : p < np) (hv : v < 10) : fX0_apartFrom 13 89 (nI p) (nI v) σ = some (sApt nr w p (nI v)) := by
  have g := hC.g
  have g1 := g.1
  have g2 := g.2.1
  obtain ⟨f0, f1, -⟩ := fin0 hC.rf
  have c89 := hC.rf.sr89
  have key : ∀ z, fX0_apartFrom_b36 13 89 (nI p) (nI v) z σ = some (fo (fun r acc => if w (26 + 14 * r + p) = 0 then acc + 0 else acc + sTu (w (26 + 14 * r + p) - 1) (nI v)) z nr) := by
    intro z
    unfold fX0_apartFrom_b36 fX0_apartFrom_w41
    have key : wh (fun a : Int32 × Int32 => fX0_apartFrom_l41 13 89 (nI p) (nI v) a.1 a.2 σ) BIG (z, 0) = some (fo (fun r acc => if w (26 + 14 * r + p) = 0 then acc + 0 else acc + sTu (w (26 + 14 * r + p) - 1) (nI v)) z nr) := by
      refine wh_run (fun i => (fo (fun r acc => if w (26 + 14 * r + p) = 0 then acc + 0 else acc + sTu (w (26 + 14 * r + p) - 1) (nI v)) z i, nI i)) nr rfl (BIG_lt (by omega)) (fun i hi => ?_) ?_
      · unfold fX0_apartFrom_l41 fX0_apartFrom_b80
        have e6 : ¬ nI nr ≤ nI i := fun z => absurd ((leT (by omega) (by omega)).mp z) (by omega)
        rw [fo_succ]
        generalize fo _ z i = acc
        simp only [f0, Option.bind_some, hC.hc.2.2.2.2.2.2.2.1, if_neg e6, c_recall c89 hC.sc (show i < 6 by omega) (show p < 12 by omega), sub1_m1, nI_1]
        by_cases q : w (26 + 14 * i + p) = 0
        · simp only [if_pos q]
        · simp only [if_neg q]
          obtain ⟨k, hk, e⟩ := mem_ok hB (show i < 6 by omega) (show p < 12 by omega) q
          rw [e, (turn_sym k hk v hv σ σ).1]
          rfl
      · unfold fX0_apartFrom_l41
        simp only [f0, Option.bind_some, hC.hc.2.2.2.2.2.2.2.1, if_pos (Int32.le_refl _)]
    rw [key]; rfl
  obtain ⟨k, hk, e⟩ := says_ok hB (show p < 12 by omega)
  unfold fX0_apartFrom
  simp only [f0, Option.bind_some, c_hasPage g hC.hc hp, if_neg z1, c89.1, c89.2.1, c89.2.2.2.2.1, c89.2.2.2.2.2.1, ixT (show p < 12 by omega) (by omega), if_true, clT (show p < 2147483648 by omega), hC.sc.1 p (by omega), hC.sc.2.1 p (by omega), key]
  unfold sApt
  by_cases q : w (2 * p) ≤ 0
  · simp only [if_pos q]
  · simp only [if_neg q]
    rw [e, (turn_sym k hk v hv σ σ).1]
    rfl
theorem Q_likely (h : CM np nr W H ru pg rd nl F lw D w S jl acts pw σ) (x y : Int32) : WV np nr W H ru pg rd nl F lw σ (fX9_likely 0 x y σ) (fX10_likely 310 x y σ) := by
  have g := h.g
  have g1 := g.1
  have g2 := g.2.1
  have hM := h.mm.thr
  unfold fX9_likely fX10_likely
  rw [h.rf.hall, Option.bind_some]
  by_cases hx : ∃ p, p < np ∧ x = nI p
  · obtain ⟨p, hp, rfl⟩ := hx
    have hnp : 0 < np := by omega
    rw [c_hasPage g h.hc hp, m_isPage g hM.1.hm hp]
    simp only [Option.bind_some, if_neg z1]
    rcases in4 (x := y) (n := 1) with hy | hy
    · have hin : fX10_isIn (Int32.toInt64 y) 0 1 (sI σ 310 0 0) = some 1 := isInT (a := 0) (b := 1) hy (by omega)
      rw [c01_t hy, hin]
      simp only [Option.bind_some, if_neg z1]
      let L : Nat → Int32 := fun v => sApt nr w p (nI v)
      let bt : Nat → Nat → Bool := fun i b => decide (L i < L b)
      have keyC : fX9_likely_b47 0 (nI p) y σ = some (if y = 0 then nI (apk bt 9) else L (apk bt 9)) := by
        unfold fX9_likely_b47 fX9_likely_w52
        have k1 : wh (fun a : Int32 × Int32 => fX9_likely_l52 0 (nI p) y a.1 a.2 σ) BIG (0, 1) = some (nI (apk bt (10 - 1))) := by
          refine pick_c (n := 10) (by omega) (by omega) (fun i b hb hi => ?_) (fun b hb => ?_)
          · have e6 : ¬ (10 : Int32) ≤ nI i := fun z => absurd ((leT (a := 10) (by omega) (by omega)).mp z) (by omega)
            unfold fX9_likely_l52 fX9_likely_b92
            simp only [if_neg e6, h.rf.fin, h.rf.now, Option.bind_some, c_apart h.1 h.wu hp hb, c_apart h.1 h.wu hp hi, nI_1]
            by_cases q : L i < L b
            · rw [if_neg (Int32.not_le.mpr q), if_pos (decide_eq_true q)]
            · rw [if_pos (Int32.not_lt.mp q), if_neg (by simpa [bt] using q)]
          · unfold fX9_likely_l52
            rw [if_pos (show (10 : Int32) ≤ nI 10 from Int32.le_refl _)]
        rw [k1]
        have hle := apk_le bt 9
        simp only [Option.bind_some, h.rf.fin, h.rf.now, show 10 - 1 = 9 from rfl, c_apart h.1 h.wu hp (show apk bt 9 < 10 by omega)]
        split <;> rfl
      have inn : ∀ a3 a4 v, v < 10 → ∀ z, fX10_likely_w94 310 (nI p) y a3 a4 (nI v) z 0 (sI σ 310 0 0) = some (fo (fun r acc => if w (26 + 14 * r + p) = 0 then acc + 0 else acc + sTu (w (26 + 14 * r + p) - 1) (nI v)) z nr) := by
        intro a3 a4 v hv z
        unfold fX10_likely_w94
        refine wh_run (fun i => (fo (fun r acc => if w (26 + 14 * r + p) = 0 then acc + 0 else acc + sTu (w (26 + 14 * r + p) - 1) (nI v)) z i, nI i)) nr rfl (BIG_lt (by omega)) (fun i hi => ?_) ?_
        · unfold fX10_likely_l94 fX10_likely_b137
          have e6 : ¬ nI nr ≤ nI i := fun z => absurd ((leT (by omega) (by omega)).mp z) (by omega)
          rw [fo_succ]
          generalize fo _ z i = acc
          simp only [hM.1.hm.2.2.2.1, if_neg e6, hM.r33, Option.bind_some, m_knowsW ln323 hM.2.1 h.wu (show i < 6 by omega) (show p < 12 by omega), m_recalls ln323 (show i < 6 by omega) (show p < 12 by omega), hM.2.1 (26 + 14 * i + p) (by omega), nI_1]
          by_cases q : w (26 + 14 * i + p) = 0
          · simp only [if_pos q, if_true]
          · simp only [if_neg q, if_neg z1]
            obtain ⟨k, hk, e⟩ := mem_ok h.wu (show i < 6 by omega) (show p < 12 by omega) q
            rw [e, (turn_sym k hk v hv σ _).2]
            rfl
        · unfold fX10_likely_l94
          simp only [hM.1.hm.2.2.2.1, if_pos (Int32.le_refl _)]
      have stp : ∀ a3 a4 v, v < 10 → fX10_likely_l52 310 (nI p) y a3 a4 (nI v) (sI σ 310 0 0) = (if a3 = -1 then some (Sum.inl (nI v, L v, nI (v + 1))) else if L v < a4 then some (Sum.inl (nI v, L v, nI (v + 1))) else some (Sum.inl (a3, a4, nI (v + 1)))) := by
        intro a3 a4 v hv
        have e6 : ¬ (10 : Int32) ≤ nI v := fun z => absurd ((leT (a := 10) (by omega) (by omega)).mp z) (by omega)
        obtain ⟨k, hk, e⟩ := says_ok h.wu (show p < 12 by omega)
        unfold fX10_likely_l52 fX10_likely_b89 fX10_likely_b161 fX10_likely_b168
        simp only [if_neg e6, hM.r33, Option.bind_some, i2p, i2p1, ln323, ixT (show 2 * p < 351 by omega) (by omega), ixT (show 2 * p + 1 < 351 by omega) (by omega), if_true, clT (show 2 * p < 2147483648 by omega), clT (show 2 * p + 1 < 2147483648 by omega), hM.2.1 (2 * p) (by omega), hM.2.1 (2 * p + 1) (by omega), inn _ _ v hv, nI_1]
        show _ = (if a3 = -1 then some (Sum.inl (nI v, sApt nr w p (nI v), nI (v + 1))) else if sApt nr w p (nI v) < a4 then some (Sum.inl (nI v, sApt nr w p (nI v), nI (v + 1))) else some (Sum.inl (a3, a4, nI (v + 1))))
        unfold sApt
        by_cases q : w (2 * p) ≤ 0
        · simp only [if_pos q]
        · simp only [if_neg q]
          rw [e, (turn_sym k hk v hv σ _).2]
          rfl
      have keyM : fX10_likely_b44 310 (nI p) y (sI σ 310 0 0) = some (if y = 0 then nI (apk bt 9) else L (apk bt 9), sI σ 310 0 0) := by
        unfold fX10_likely_b44 fX10_likely_w52
        have k1 : wh (fun a : Int32 × Int32 × Int32 => fX10_likely_l52 310 (nI p) y a.1 a.2.1 a.2.2 (sI σ 310 0 0)) BIG (-1, 0, 0) = some (nI (apk bt (10 - 1)), L (apk bt (10 - 1))) := by
          refine pick_m (n := 10) (by omega) (by omega) ?_ (fun i b hb hi => ?_) (fun b hb => ?_)
          · rw [stp _ _ 0 (by omega), if_pos rfl]
          · have nb : ¬ nI b = -1 := fun z => (eqN1 (by omega)).mp z
            rw [stp _ _ i hi, if_neg nb]
            by_cases q : L i < L b
            · rw [if_pos q, if_pos (decide_eq_true q), if_pos (decide_eq_true q)]
            · rw [if_neg q, if_neg (by simpa [bt] using q), if_neg (by simpa [bt] using q)]
          · unfold fX10_likely_l52
            rw [if_pos (show (10 : Int32) ≤ nI 10 from Int32.le_refl _)]
        rw [k1]
        simp only [Option.bind_some, show 10 - 1 = 9 from rfl]
        split <;> rfl
      have hcn := cntB_le (knB w p) nr
      have le0 := le0_eq h.wu (show 2 * p < 109 by omega)
      simp only [c_isThere h.rf g h.hc h.sc hp, m_knowers g hM.1.hm hM.r33 hM.2.1 h.wu (show p < 12 by omega), h.rf.fin, h.rf.now, c_knowers h.rf g h.hc h.sc (show p < 12 by omega), h.mm.r33, Option.bind_some, i2p, ln323, ixT (show 2 * p < 351 by omega) (by omega), if_true, clT (show 2 * p < 2147483648 by omega), hM.2.1 (2 * p) (by omega), keyC, keyM]
      by_cases q : w (2 * p) = 0
      · simp only [if_pos (le0.mpr q), if_pos q, if_true]
        by_cases q2 : nI (cntB (knB w p) nr) = 0
        · simp only [if_pos q2]; exact WV.t h rfl rfl
        · simp only [if_neg q2]; exact WV.t h rfl rfl
      · simp only [if_neg (fun z => q (le0.mp z)), if_neg q, if_neg z1, ite_self]
        exact WV.t h rfl rfl
    · have hin : fX10_isIn (Int32.toInt64 y) 0 1 (sI σ 310 0 0) = some 0 := isInF (a := 0) (b := 1) hy (by omega) (by omega)
      rw [c01_f hy, hin]
      exact WV.t h rfl rfl
  · rw [c_hasPage_out g h.hc hx, m_isPage_out g hM.1.hm hx]
    exact WV.t h rfl rfl
end CCs
