/-! laws: an ATOM, both parsers in step -/
section LawB
variable {σ τ : Mm} {b : Nat → Nat} {L p : Nat} {ℓ : Nat → Int32}
abbrev RecT : Type := Nat → Nat → Int32 → Int32 → Mm → Option (Int32 × Mm)
def QT (_ : Int32) : Prop := True
theorem tA_L {j : Nat} {x y : Mm} (h : Sm tA x y) : Sm (tLc j) x y := h.mono (fun c k hc => (Bool.or_eq_false_iff.mp hc).1)
theorem NM_nI {w : Nat} (h : w < 2147483648) : NM (nI w) := fun z => by
  have := congrArg Int32.toInt z
  rw [nI_toI h, show ((-2147483648 : Int32)).toInt = -2147483648 by decide] at this
  omega
theorem X_atom {j a B n d : Nat} (RC RM : RecT) (hS : d < 6 → ∀ (σ τ : Mm) (p n : Nat), n ≤ p → ST j a B b L ℓ σ τ p n (d + 1) → OUT QT j a B b L ℓ (d + 1) n n p σ τ (RC 4 (48 + 4 * j) (nI (d + 1)) 0 σ) (RM 2 310 0 0 τ)) (hd : d ≤ 6) (h : ST j a B b L ℓ σ τ p n d) (hn : n ≤ p) : OUT QT j a B b L ℓ d n n p σ τ (fX3_atom RC (48 + 4 * j) (nI d) σ) (fX10_atom RM 310 τ) := by
  obtain ⟨s1, s2, s3⟩ := sk_bd (b := b) h.tc.1
  have hL := h.tc.2.1
  have h0 := h.cur s2
  have r0 := h.r0
  have ess : sk b L (sk b L p) = sk b L p := sk_sk h.tc.1
  have esg : sg b L (sk b L p) = sg b L p := sg_sk h.tc.1
  have eC : fX3_atom RC (48 + 4 * j) (nI d) σ = (fun vk2 sk2 => if vk2 < 0 then (gR sk2 (48 + 4 * j) 0).bind fun r4 => bnd2 (fX7_next r4 sk2) fun vk5 sk5 => if vk5 = 91 then if nI d < 6 then (gR sk5 (48 + 4 * j) 0).bind fun r12 => bnd2 (RC 4 (48 + 4 * j) (nI d + 1) 0 (sI sk5 r12 2 ((gI sk5 r12 2) + 1))) fun vk13 sk13 => if vk13 = 0 then some (0, sk13) else (gR sk13 (48 + 4 * j) 0).bind fun r15 => bnd2 (fX7_expect r15 93 sk13) fun vk16 sk16 => if vk16 = 0 then some (0, sk16) else some (1, sk16) else (gR sk5 (48 + 4 * j) 0).bind fun r18 => bnd2 (fX7_wrongHere r18 sk5) fun vk19 sk19 => some (vk19, sk19) else (gR sk5 (48 + 4 * j) 0).bind fun r7 => bnd2 (fX7_number r7 4 0 9999 sk5) fun vk8 sk8 => (fX3_emit (48 + 4 * j) 48 vk8 sk8).bind fun sk9 => if vk8 < 0 then some (0, sk9) else some (1, sk9) else (gR sk2 (48 + 4 * j) 0).bind fun r20 => (fX3_emit (48 + 4 * j) 97 vk2 (sI sk2 r20 2 ((gI sk2 r20 2) + 1))).bind fun sk21 => some (1, sk21)) (six 1106 (sg b L p)) (sI σ 1 2 (nI (sk b L p))) := by
    unfold fX3_atom
    rw [r0, Option.bind_some, show 1100 + 2 * 3 = 1106 from rfl, c_nextOf h.tc _ six_m1.2.2.2.1, bnd2_some]
  have eM : fX10_atom RM 310 τ = (fun vk1 sk1 => (if six 1106 vk1 = -1 then if vk1 = 91 then bnd2 (fX10_goesIn 310 sk1) fun vk16 sk16 => if vk16 = 0 then some (0, sk16) else bnd2 (RM 2 310 0 0 sk16) fun vk18 sk18 => bnd2 (fX10_takes 310 93 sk18) fun vk19 sk19 => if vk19 = 0 then some (0, sk19) else some (vk18, (sI sk19 310 12 ((gI sk19 310 12) - 1))) else (fX10_isDigit 310 sk1).bind fun vk5 => if vk5 = 0 then bnd2 (fX10_fails 310 sk1) fun vk15 sk15 => fX10_atom_b86 RM 310 sk15 else fX10_atom_b86 RM 310 sk1 else (gR sk1 310 4).bind fun r21 => if ixB vk1 (ln r21) = true then some ((gI (sI sk1 310 10 ((gI sk1 310 10) + 1)) r21 (Int32.toNatClampNeg vk1)), (sI sk1 310 10 ((gI sk1 310 10) + 1))) else none)) (sg b L p) (sI τ 310 10 (nI (sk b L p))) := by
    unfold fX10_atom
    rw [m_look h.tm, bnd2_some, show 1100 + 2 * 3 = 1106 from rfl, m_among _ _ (by rw [sl_tab.2.2.2.1]; omega), Option.bind_some]
    dsimp only
    by_cases q : six 1106 (sg b L p) = -1
    · rw [if_pos q, if_pos rfl, if_pos q]
    · rw [if_neg q, if_neg z1, if_neg q]
  dsimp only at eC eM
  rcases six_rng 1106 (sg b L p) with e | ⟨i, hi, e⟩
  · rw [e, if_pos (show (-1 : Int32) < 0 by decide), show gR (sI σ 1 2 (nI (sk b L p))) (48 + 4 * j) 0 = some 1 from r0, Option.bind_some, c_next h0.tc, bnd2_some, esg, ess, sI_sI] at eC
    rw [if_pos e] at eM
    by_cases q91 : sg b L p = 91
    · have hlt := sg_lt (x := 91) (by omega) q91
      rw [if_pos q91] at eC eM
      rw [m_goIn h0.tm hd h0.dp h0.ok] at eM
      by_cases q6 : d = 6
      · left
        rw [if_neg (show ¬ nI d < 6 from fun z => absurd ((ltT (b := 6) (by omega) (by omega)).mp z) (by omega)), show gR (sI σ 1 2 (nI (sk b L p))) (48 + 4 * j) 0 = some 1 from r0, Option.bind_some, c_wrong h0.tc, bnd2_some] at eC
        rw [if_pos q6, bnd2_some, if_pos rfl] at eM
        exact ⟨sk b L p, _, _, _, eC, by rw [gI_sI, if_pos ⟨rfl, rfl⟩], eM, by rw [gI_sI, if_pos ⟨rfl, rfl⟩], by omega, trivial, (Sm.rf.sI rfl).sI rfl, (Sm.rf.sI rfl).sI rfl⟩
      · rw [if_pos (show nI d < 6 from (ltT (b := 6) (by omega) (by omega)).mpr (by omega)), show gR (sI σ 1 2 (nI (sk b L p))) (48 + 4 * j) 0 = some 1 from r0, Option.bind_some, h0.tc.2.2.2.2.1, nI_1, sI_sI, nI_1] at eC
        rw [if_neg q6, bnd2_some, if_neg z1] at eM
        have hq := h.cur (q := sk b L p + 1) (by omega)
        have e2 : sI (sI (sI τ 310 10 (nI (sk b L p))) 310 12 (nI (d + 1))) 310 10 (nI (sk b L p + 1)) = sI (sI τ 310 10 (nI (sk b L p + 1))) 310 12 (nI (d + 1)) := by
          unfold sI
          refine Prod.ext ?_ rfl
          funext x y
          dsimp only
          by_cases c1 : x = 310 ∧ y = 10
          · rw [if_pos c1, if_neg (show ¬ (x = 310 ∧ y = 12) by omega), if_pos c1]
          · rw [if_neg c1]
            by_cases c2 : x = 310 ∧ y = 12
            · rw [if_pos c2, if_pos c2]
            · rw [if_neg c2, if_neg c1, if_neg c2, if_neg c1]
        rw [e2] at eM
        have hST : ST j a B b L ℓ (sI σ 1 2 (nI (sk b L p + 1))) (sI (sI τ 310 10 (nI (sk b L p + 1))) 310 12 (nI (d + 1))) (sk b L p + 1) n (d + 1) :=
          ⟨hq.rf, hq.hj, hq.tc, hq.sz, hq.tm.oth (Or.inl ⟨rfl, by omega⟩), by rw [gI_sI, if_neg (by omega)]; exact hq.ok, by rw [gI_sI, if_pos ⟨rfl, rfl⟩], hq.lt.cur⟩
        have sC1 : Sm (tLc j) σ (sI σ 1 2 (nI (sk b L p + 1))) := Sm.rf.sI rfl
        have sM1 : Sm tLm τ (sI (sI τ 310 10 (nI (sk b L p + 1))) 310 12 (nI (d + 1))) := (Sm.rf.sI rfl).sI rfl
        rcases hS (by omega) _ _ _ n (by omega) hST with ⟨e', σ', τ', v, a1, a2, a3, a4, a5, a6, a7, a8⟩ | ⟨q, n', v, σ', τ', b1, b2, b3, b4, b5, b6, b7, b8, b9, b10, b11⟩
        · left
          rw [a1, bnd2_some, if_pos rfl] at eC
          rw [a3, bnd2_some, m_takesF e' a5 a4, bnd2_some, if_pos rfl] at eM
          exact ⟨e', _, _, _, eC, a2, eM, a4, a5, trivial, sC1.tr a7, sM1.tr a8⟩
        · rw [b1, bnd2_some, if_neg z1, b6.r0, Option.bind_some, c_expect b6.tc] at eC
          rw [b2, bnd2_some, m_takes b6.tm b6.ok] at eM
          obtain ⟨u1, u2, u3⟩ := sk_bd (b := b) b6.tc.1
          by_cases q93 : sg b L q = 93
          · right
            have hlt2 := sg_lt (x := 93) (by omega) q93
            rw [if_pos q93, bnd2_some, if_neg z1] at eC eM
            have hr := b6.cur (q := sk b L q + 1) (by omega)
            rw [hr.dp, show (1 : Int32) = nI 1 from rfl, pk_sub (by omega), Nat.add_sub_cancel] at eM
            refine ⟨sk b L q + 1, n', v, _, _, eC, eM, by omega, by omega, by omega, ⟨hr.rf, hr.hj, hr.tc, hr.sz, hr.tm.oth (Or.inl ⟨rfl, by omega⟩), by rw [gI_sI, if_neg (by omega)]; exact hr.ok, by rw [gI_sI, if_pos ⟨rfl, rfl⟩], hr.lt.cur⟩, trivial, (sC1.tr b8).sI rfl, ((sM1.tr b9).sI rfl).sI rfl, fun x hx => ?_, fun hz => ?_⟩
            · rw [gI_sI, if_neg (by omega), gI_sI, if_neg (by omega), (b10 x hx).1, (b10 x hx).2, gI_sI, if_neg (by omega), gI_sI, if_neg (by omega)]
              exact ⟨rfl, rfl⟩
            · refine ⟨(b11 hz).1.congr (fun x _ _ => ?_), (b11 hz).2⟩
              rw [gI_sI, if_neg (by omega), gI_sI, if_neg (by omega)]
              exact ⟨rfl, rfl⟩
          · left
            rw [if_neg q93, bnd2_some, if_pos rfl] at eC eM
            exact ⟨sk b L q, _, _, _, eC, by rw [gI_sI, if_pos ⟨rfl, rfl⟩], eM, by rw [gI_sI, if_pos ⟨rfl, rfl⟩], by omega, trivial, ((sC1.tr b8).sI rfl).sI rfl, ((sM1.tr b9).sI rfl).sI rfl⟩
    · rw [if_neg q91, show gR (sI σ 1 2 (nI (sk b L p))) (48 + 4 * j) 0 = some 1 from r0, Option.bind_some] at eC
      rw [if_neg q91, m_isDig h0.tm, Option.bind_some] at eM
      have n242 : n < 242 := by omega
      by_cases qd : dg b L (sk b L p)
      · rw [if_pos qd, if_neg z1] at eM
        have eN : fX7_number 1 4 0 9999 (sI σ 1 2 (nI (sk b L p))) = (wh (fun x : Int32 × Int32 × Mm => fX7_number_l23 1 4 0 9999 x.1 x.2.1 x.2.2) BIG (nI 0, nI 0, sI σ 1 2 (nI (sk b L p)))).bind (Sum.elim (fun eo110 => (fun xo11_4 so11 => fX7_number_b98 1 0 9999 xo11_4 so11) eo110.1 eo110.2) (fun eo111 => (fun so11 => bnd2 (fX7_wrongHere 1 so11) fun vk14 sk14 => some ((-1), sk14)) eo111)) := by
          unfold fX7_number fX7_number_w23
          rw [c_next h0.tc, bnd2_some, c_isDigS h0.tc, ess, if_pos qd, Option.bind_some, if_neg z1, sI_sI]
          rfl
        have eB : fX10_atom_b86 RM 310 (sI τ 310 10 (nI (sk b L p))) = (wh (fun x : Int32 × Int32 × Mm => fX10_atom_l90 RM 310 x.1 x.2.1 x.2.2) BIG (nI 0, nI 0, sI τ 310 10 (nI (sk b L p)))).bind (Sum.elim (fun eo130 => some eo130) (fun eo131 => (fun so13 => bnd2 (fX10_fails 310 so13) fun vk14 sk14 => some (0, sk14)) eo131)) := rfl
        rcases X_num4 RM 4 0 0 (sk b L p) _ _ rfl (by omega) h0.tc h0.tm h0.ok BIG BIG (by unfold BIG; omega) (by unfold BIG; omega) with ⟨q, w, a1, a2, a3, a4, a5, a6⟩ | ⟨q, a1, a2, a3⟩
        · have hpq := a4 qd
          have hq := h.cur (q := q) a2
          rw [sI_sI] at a5 a6
          have eN2 : fX7_number 1 4 0 9999 (sI σ 1 2 (nI (sk b L p))) = some (nI w, sI σ 1 2 (nI q)) := by
            rw [eN, a5]
            show fX7_number_b98 1 (nI 0) (nI 9999) (nI w) (sI σ 1 2 (nI q)) = _
            rw [fin_c hq.tc (by omega) (by omega) (by omega) (by omega), if_pos ⟨by omega, by omega⟩]
          have eB2 : fX10_atom_b86 RM 310 (sI τ 310 10 (nI (sk b L p))) = some (nI w, sI τ 310 10 (nI q)) := by
            rw [eB, a6]; rfl
          rw [eN2, bnd2_some] at eC
          rw [eB2] at eM
          obtain ⟨σ', c1, c2, c3, c4, c5, c6⟩ := hq.emit n242 48 (nI w)
          rw [c1, Option.bind_some, if_neg (nI_pos (by omega))] at eC
          right
          refine ⟨q, n + 1, nI w, _, _, eC, eM, by omega, by omega, by omega, c2, trivial, (Sm.rf.sI rfl : Sm (tLc j) σ (sI σ 1 2 (nI q))).tr c3, Sm.rf.sI rfl, fun x hx => ?_, fun _ => ⟨?_, NM_nI (by omega)⟩⟩
          · rw [(c6 x hx).1, (c6 x hx).2, gI_sI, if_neg (by omega), gI_sI, if_neg (by omega)]
            exact ⟨rfl, rfl⟩
          · have := Seg.num (cs := gI σ' (49 + 4 * j)) (vs := gI σ' (50 + 4 * j)) (ℓ := ℓ) c4
            rwa [c5] at this
        · have hq := h.cur (q := q) a1
          rw [sI_sI] at a2 a3
          have eN2 : fX7_number 1 4 0 9999 (sI σ 1 2 (nI (sk b L p))) = some (-1, sI (sI σ 1 2 (nI q)) 1 3 (nI q)) := by
            rw [eN, a2]
            show (bnd2 (fX7_wrongHere 1 (sI σ 1 2 (nI q))) fun vk14 sk14 => some ((-1), sk14)) = _
            rw [c_wrong hq.tc, bnd2_some]
          have eB2 : fX10_atom_b86 RM 310 (sI τ 310 10 (nI (sk b L p))) = some (0, sI (sI τ 310 10 (nI q)) 310 11 (nI q)) := by
            rw [eB, a3]
            show (bnd2 (fX10_fails 310 (sI τ 310 10 (nI q))) fun vk14 sk14 => some (0, sk14)) = _
            rw [m_fails hq.tm hq.ok, bnd2_some]
          have hF3 : RF (sI (sI σ 1 2 (nI q)) 1 3 (nI q)) := hq.rf.sm (Sm.rf.sI rfl : Sm tA _ _)
          rw [eN2, bnd2_some, c_emit hF3 h.hj n242 (by rw [gI_sI, if_neg (by omega)]; exact hq.sz), Option.bind_some, if_pos (by decide)] at eC
          rw [eB2] at eM
          left
          refine ⟨q, _, _, _, eC, by simp only [gI_sI]; rw [if_neg (by omega), if_neg (by omega), if_neg (by omega), if_pos (by simp)], eM, by rw [gI_sI, if_pos ⟨rfl, rfl⟩], by omega, trivial, ((((Sm.rf.sI rfl).sI rfl).sI (by unfold tLc; simp <;> omega)).sI (by unfold tLc; simp <;> omega)).sI (by unfold tLc; simp), (Sm.rf.sI rfl).sI rfl⟩
      · rw [if_neg qd, if_pos rfl, m_fails h0.tm h0.ok, bnd2_some] at eM
        have eN2 : fX7_number 1 4 0 9999 (sI σ 1 2 (nI (sk b L p))) = some (-1, sI (sI σ 1 2 (nI (sk b L p))) 1 3 (nI (sk b L p))) := by
          unfold fX7_number
          rw [c_next h0.tc, bnd2_some, c_isDigS h0.tc, ess, if_neg qd, Option.bind_some, if_pos rfl, sI_sI, c_wrong h0.tc, bnd2_some]
        have hMf : TM (sI (sI τ 310 10 (nI (sk b L p))) 310 11 (nI (sk b L p))) a B b L (sk b L p) := h0.tm.oth (Or.inl ⟨rfl, by omega⟩)
        have eB2 : fX10_atom_b86 RM 310 (sI (sI τ 310 10 (nI (sk b L p))) 310 11 (nI (sk b L p))) = some (0, sI (sI τ 310 10 (nI (sk b L p))) 310 11 (nI (sk b L p))) := by
          unfold fX10_atom_b86 fX10_atom_w90
          have st : fX10_atom_l90 RM 310 0 0 (sI (sI τ 310 10 (nI (sk b L p))) 310 11 (nI (sk b L p))) = some (Sum.inr (Sum.inl (0, sI (sI τ 310 10 (nI (sk b L p))) 310 11 (nI (sk b L p))))) := by
            unfold fX10_atom_l90
            rw [m_isDig hMf, if_neg qd, Option.bind_some, if_pos rfl]
          have : wh (fun x : Int32 × Int32 × Mm => fX10_atom_l90 RM 310 x.1 x.2.1 x.2.2) BIG (0, 0, sI (sI τ 310 10 (nI (sk b L p))) 310 11 (nI (sk b L p))) = some (Sum.inl (0, sI (sI τ 310 10 (nI (sk b L p))) 310 11 (nI (sk b L p)))) := by
            rw [show BIG = 999999 + 1 from rfl]
            exact whR st
          rw [this]; rfl
        have hF3 : RF (sI (sI σ 1 2 (nI (sk b L p))) 1 3 (nI (sk b L p))) := h0.rf.sm (Sm.rf.sI rfl : Sm tA _ _)
        rw [eN2, bnd2_some, c_emit hF3 h.hj n242 (by rw [gI_sI, if_neg (by omega)]; exact h0.sz), Option.bind_some, if_pos (by decide)] at eC
        rw [eB2] at eM
        left
        refine ⟨sk b L p, _, _, _, eC, by simp only [gI_sI]; rw [if_neg (by omega), if_neg (by omega), if_neg (by omega), if_pos (by simp)], eM, by rw [gI_sI, if_pos ⟨rfl, rfl⟩], by omega, trivial, ((((Sm.rf.sI rfl).sI rfl).sI (by unfold tLc; simp <;> omega)).sI (by unfold tLc; simp <;> omega)).sI (by unfold tLc; simp), (Sm.rf.sI rfl).sI rfl⟩
  · have hlt := six_lt h.tc six_m1.2.2.2.1 (by rw [e]; exact fun z => (eqN1 (by rw [sl_tab.2.2.2.1] at hi; omega)).mp z)
    rw [sl_tab.2.2.2.1] at hi
    have hb := (h.tc.2.2.2.2.2 _ hlt).1
    have es : sg b L p = nI (b (sk b L p)) := by unfold sg; rw [if_pos hlt]
    have ech : b (sk b L p) = chL i := six_let _ hb i hi (by rw [← es]; exact e)
    have hcl := chL_lt i hi
    have hq := h.cur (q := sk b L p + 1) (by omega)
    have n242 : n < 242 := by omega
    rw [e, if_neg (nI_pos (by omega)), show gR (sI σ 1 2 (nI (sk b L p))) (48 + 4 * j) 0 = some 1 from r0, Option.bind_some, h0.tc.2.2.2.2.1, nI_1, sI_sI] at eC
    rw [if_neg (by rw [e]; exact fun z => (eqN1 (by omega)).mp z), h0.lt.1, Option.bind_some, ln314, es, ech, if_pos (ixT hcl (by omega)), h0.tm.2.2.2.2.2.2.2.1, nI_1, sI_sI, clT (by omega), hq.lt.2 i hi] at eM
    obtain ⟨σ', c1, c2, c3, c4, c5, c6⟩ := hq.emit n242 97 (nI i)
    rw [c1, Option.bind_some] at eC
    right
    refine ⟨sk b L p + 1, n + 1, ℓ i, _, _, eC, eM, by omega, by omega, by omega, c2, trivial, (Sm.rf.sI rfl : Sm (tLc j) σ (sI σ 1 2 (nI (sk b L p + 1)))).tr c3, Sm.rf.sI rfl, fun x hx => ?_, fun hz => ⟨Seg.let' c4 hi c5, hz i hi⟩⟩
    rw [(c6 x hx).1, (c6 x hx).2, gI_sI, if_neg (by omega), gI_sI, if_neg (by omega)]
    exact ⟨rfl, rfl⟩
end LawB
