/-! laws: what a law is worth, the class -/
section LawJ
variable {σ : Mm}
def evS (cs vs ℓ : Nat → Int32) (N : Nat) : Nat → Nat → Bool → Nat → (Nat → Int32) → Int32
  | 0, _, _, _, _ => 0
  | k + 1, t, ps, i, S => if N ≤ i then 0 else if ps = true then (if cs i = 59 then evS cs vs ℓ N k t false (i + 1) S else evS cs vs ℓ N k t true (i + 1) S) else if cs i = 59 then (if t = 0 then 0 else S (t - 1)) else if cs i = 63 then (if t = 0 then evS cs vs ℓ N k 0 true (i + 1) S else if S (t - 1) = 0 then evS cs vs ℓ N k 0 true (i + 1) S else evS cs vs ℓ N k 0 false (i + 1) S) else if 242 ≤ t then 0 else if cs i = 48 then evS cs vs ℓ N k (t + 1) false (i + 1) (uw S t (vs i)) else if cs i = 97 then evS cs vs ℓ N k (t + 1) false (i + 1) (uw S t (ℓ (Int32.toNatClampNeg (vs i)))) else if cs i = 33 then (if t = 0 then evS cs vs ℓ N k t false (i + 1) S else evS cs vs ℓ N k t false (i + 1) (uw S (t - 1) (1 - S (t - 1)))) else if t ≤ 1 then evS cs vs ℓ N k t false (i + 1) S else evS cs vs ℓ N k (t - 1) false (i + 1) (uw S (t - 2) (jn (cs i) (S (t - 2)) (S (t - 1))))
theorem uw_cg {S S' : Nat → Int32} {t m : Nat} {v v' : Int32} (h : ∀ k, k < t → S k = S' k) (hv : v = v') : ∀ k, (k < t ∨ k = m) → uw S m v k = uw S' m v' k := fun k hk => by
  unfold uw
  by_cases q : k = m
  · rw [if_pos q, if_pos q]; exact hv
  · rw [if_neg q, if_neg q]; exact h k (by omega)
theorem evS_st (cs vs ℓ : Nat → Int32) (N : Nat) : ∀ k t ps i S S', (∀ x, x < t → S x = S' x) → evS cs vs ℓ N k t ps i S = evS cs vs ℓ N k t ps i S' := by
  intro k
  induction k with
  | zero => intro t ps i S S' _; rfl
  | succ k ih =>
    intro t ps i S S' h
    have i1 := ih t false (i + 1) S S' h
    have i2 := ih t true (i + 1) S S' h
    have i3 := ih 0 true (i + 1) S S' (fun x hx => by omega)
    have i4 := ih 0 false (i + 1) S S' (fun x hx => by omega)
    have e1 : ¬ t = 0 → S (t - 1) = S' (t - 1) := fun q => h _ (by omega)
    have i5 : ∀ v, evS cs vs ℓ N k (t + 1) false (i + 1) (uw S t v) = evS cs vs ℓ N k (t + 1) false (i + 1) (uw S' t v) := fun v => ih _ _ _ _ _ (fun x hx => uw_cg h rfl x (by omega))
    have i6 : ¬ t = 0 → evS cs vs ℓ N k t false (i + 1) (uw S (t - 1) (1 - S (t - 1))) = evS cs vs ℓ N k t false (i + 1) (uw S' (t - 1) (1 - S' (t - 1))) := fun q => ih _ _ _ _ _ (fun x hx => uw_cg h (by rw [e1 q]) x (by omega))
    have i7 : ¬ t ≤ 1 → evS cs vs ℓ N k (t - 1) false (i + 1) (uw S (t - 2) (jn (cs i) (S (t - 2)) (S (t - 1)))) = evS cs vs ℓ N k (t - 1) false (i + 1) (uw S' (t - 2) (jn (cs i) (S' (t - 2)) (S' (t - 1)))) := fun q => ih _ _ _ _ _ (fun x hx => by
      rw [h (t - 2) (by omega), h (t - 1) (by omega)]
      unfold uw
      by_cases z : x = t - 2
      · rw [if_pos z, if_pos z]
      · rw [if_neg z, if_neg z]; exact h x (by omega))
    unfold evS
    rw [i1, i2, i3, i4, i5, i5]
    by_cases q0 : t = 0
    · subst q0
      simp only [if_true]
      simp only [Nat.zero_le, if_true, i1]
    · by_cases q1 : t ≤ 1
      · rw [i6 q0, e1 q0]; simp only [if_pos q1]
      · rw [i6 q0, i7 q1, e1 q0]
/-- the class's law at work -/
def WI (j : Nat) (cs vs ℓ : Nat → Int32) (N : Nat) (σ : Mm) : Prop := gR σ (48 + 4 * j) 1 = some (49 + 4 * j) ∧ gR σ (48 + 4 * j) 2 = some (50 + 4 * j) ∧ gR σ (48 + 4 * j) 3 = some (51 + 4 * j) ∧ gI σ (48 + 4 * j) 4 = nI N ∧ (∀ k, gI σ (49 + 4 * j) k = cs k) ∧ (∀ k, gI σ (50 + 4 * j) k = vs k) ∧ ∀ k, k < 6 → gI σ 12 k = ℓ k
def CK (cs vs : Nat → Int32) (N : Nat) : Prop := ∀ i, i < N → cs i = 59 ∨ cs i = 63 ∨ cs i = 48 ∨ cs i = 33 ∨ isOp (cs i) ∨ (cs i = 97 ∧ ∃ k, k < 6 ∧ vs i = nI k)
theorem WI.sI {j N k : Nat} {cs vs ℓ : Nat → Int32} {v : Int32} (h : WI j cs vs ℓ N σ) : WI j cs vs ℓ N (sI σ (51 + 4 * j) k v) := by
  obtain ⟨h1, h2, h3, h4, h5, h6, h7⟩ := h
  exact ⟨h1, h2, h3, by rw [gI_sI, if_neg (by omega)]; exact h4, fun k => by rw [gI_sI, if_neg (by omega)]; exact h5 k, fun k => by rw [gI_sI, if_neg (by omega)]; exact h6 k, fun k hk => by rw [gI_sI, if_neg (by omega)]; exact h7 k hk⟩
def wG (l : Nat) (r : (Int32 × Mm) ⊕ Int32 × Mm) : Option (Int32 × Mm) := (Sum.elim (fun eo380 => some eo380) (fun eo381 => (fun xo38_2 so38 => if xo38_2 ≤ 0 then some (0, so38) else (gR so38 l 3).bind fun r40 => if (nI (ln r40)) < xo38_2 then some (0, so38) else if ixB (xo38_2 - 1) (ln r40) = true then some ((gI so38 r40 (Int32.toNatClampNeg (xo38_2 - 1))), so38) else none) eo381.1 eo381.2)) r
def pB (ps : Bool) : Int32 := if ps = true then 1 else 0
theorem st_uw {j t : Nat} {v : Int32} : gI (sI σ (51 + 4 * j) t v) (51 + 4 * j) = uw (gI σ (51 + 4 * j)) t v := by
  funext k
  rw [gI_sI]
  unfold uw
  by_cases q : k = t
  · rw [if_pos ⟨rfl, q⟩, if_pos q]
  · rw [if_neg (by omega), if_neg q]
theorem c_wl {j N i t : Nat} {cs vs ℓ : Nat → Int32} (hj : j < 5) (hN : N ≤ 240) (h : WI j cs vs ℓ N σ) (q0 : ¬ N ≤ i) (hi : i ≤ 240) (x : Int32) : fX3_worth_l7 (48 + 4 * j) 12 (nI t) x (nI i) σ = (if x = 0 then if cs i = 59 then some (Sum.inr (Sum.inr (nI t, σ))) else if cs i = 63 then if ((nI t) + (-1)) < 0 then fX3_worth_b111 (48 + 4 * j) 12 (nI i) σ else (gR σ (48 + 4 * j) 3).bind fun r34 => if ixB ((nI t) + (-1)) (ln r34) = true then if (gI σ r34 (Int32.toNatClampNeg ((nI t) + (-1)))) = 0 then fX3_worth_b111 (48 + 4 * j) 12 (nI i) σ else fX3_worth_b116 (48 + 4 * j) 12 (nI i) 0 σ else none else (gR σ (48 + 4 * j) 3).bind fun r8 => if (nI t) < (nI (ln r8)) then if cs i = 48 then (gR σ (48 + 4 * j) 2).bind fun r30 => if ixB (nI i) (ln r30) = true then if ixB (nI t) (ln r8) = true then fX3_worth_b280 (48 + 4 * j) 12 ((nI t) + 1) x (nI i) (sI σ r8 (Int32.toNatClampNeg (nI t)) (gI σ r30 i)) else none else none else if cs i = 97 then (gR σ (48 + 4 * j) 2).bind fun r22 => if ixB (nI i) (ln r22) = true then if (gI σ r22 i) < 0 then fX3_worth_b205 (48 + 4 * j) 12 (nI t) x (nI i) r8 (nI t) σ else if ixB (nI i) (ln r22) = true then if (nI (ln 12)) ≤ (gI σ r22 i) then fX3_worth_b205 (48 + 4 * j) 12 (nI t) x (nI i) r8 (nI t) σ else if ixB (nI i) (ln r22) = true then if ixB (gI σ r22 i) (ln 12) = true then fX3_worth_b206 (48 + 4 * j) 12 (nI t) x (nI i) r8 (nI t) (gI σ 12 (Int32.toNatClampNeg (gI σ r22 i))) σ else none else none else none else none else if cs i = 33 then if (nI t) ≤ 0 then fX3_worth_b245 (48 + 4 * j) 12 (nI t) x (nI i) (cs i) σ else if ixB ((nI t) - 1) (ln r8) = true then if ixB ((nI t) - 1) (ln r8) = true then fX3_worth_b280 (48 + 4 * j) 12 (nI t) x (nI i) (sI σ r8 (Int32.toNatClampNeg ((nI t) - 1)) (1 - (gI σ r8 (Int32.toNatClampNeg ((nI t) - 1))))) else none else none else fX3_worth_b245 (48 + 4 * j) 12 (nI t) x (nI i) (cs i) σ else some (Sum.inr (Sum.inl (0, σ))) else if cs i = 59 then fX3_worth_b51 (48 + 4 * j) 12 (nI t) (nI i) 0 σ else fX3_worth_b51 (48 + 4 * j) 12 (nI t) (nI i) 1 σ) := by
  obtain ⟨l1, l2, l3⟩ := ln_law j hj
  obtain ⟨h1, h2, h3, h4, h5, h6, h7⟩ := id h
  have x1 : ixB (nI i) 242 = true := ixT (by omega) (by omega)
  have cc : Int32.toNatClampNeg (nI i) = i := clT (by omega)
  have nN : ¬ nI N ≤ nI i := fun z => q0 ((leT (by omega) (by omega)).mp z)
  have n2 : ¬ nI 242 ≤ nI i := fun z => absurd ((leT (by omega) (by omega)).mp z) (by omega)
  unfold fX3_worth_l7
  rw [h4, if_neg nN, h1, Option.bind_some, l1, if_neg n2, if_pos x1, cc, h5]
theorem c_worthL {j N : Nat} {cs vs ℓ : Nat → Int32} (hj : j < 5) (hN : N ≤ 240) (hk : CK cs vs N) : ∀ (K t i : Nat) (ps : Bool) (σ : Mm), WI j cs vs ℓ N σ → i ≤ N → t ≤ 242 → N - i < K → ∃ σ', ((wh (fun a : Int32 × Int32 × Int32 × Mm => fX3_worth_l7 (48 + 4 * j) 12 a.1 a.2.1 a.2.2.1 a.2.2.2) K (nI t, pB ps, nI i, σ)).bind fun r => wG (48 + 4 * j) r) = some (evS cs vs ℓ N K t ps i (gI σ (51 + 4 * j)), σ') ∧ Sm scr σ σ' := by
  intro K
  induction K with
  | zero => intro t i ps σ _ _ _ h; omega
  | succ K ih =>
    intro t i ps σ h hi ht hf
    obtain ⟨l1, l2, l3⟩ := ln_law j hj
    obtain ⟨h1, h2, h3, h4, h5, h6, h7⟩ := id h
    have done : ∀ {r : (Int32 × Mm) ⊕ Int32 × Mm}, fX3_worth_l7 (48 + 4 * j) 12 (nI t) (pB ps) (nI i) σ = some (Sum.inr r) → ((wh (fun a : Int32 × Int32 × Int32 × Mm => fX3_worth_l7 (48 + 4 * j) 12 a.1 a.2.1 a.2.2.1 a.2.2.2) (K + 1) (nI t, pB ps, nI i, σ)).bind fun r => wG (48 + 4 * j) r) = wG (48 + 4 * j) r := fun {r} e => by
      have : wh (fun a : Int32 × Int32 × Int32 × Mm => fX3_worth_l7 (48 + 4 * j) 12 a.1 a.2.1 a.2.2.1 a.2.2.2) (K + 1) (nI t, pB ps, nI i, σ) = some r := whR e
      rw [this, Option.bind_some]
    have more : ∀ {t' : Nat} {ps' : Bool} {σ1 : Mm} {S : Nat → Int32}, fX3_worth_l7 (48 + 4 * j) 12 (nI t) (pB ps) (nI i) σ = some (Sum.inl (nI t', pB ps', nI (i + 1), σ1)) → WI j cs vs ℓ N σ1 → i < N → t' ≤ 242 → gI σ1 (51 + 4 * j) = S → Sm scr σ σ1 → evS cs vs ℓ N (K + 1) t ps i (gI σ (51 + 4 * j)) = evS cs vs ℓ N K t' ps' (i + 1) S → ∃ σ', ((wh (fun a : Int32 × Int32 × Int32 × Mm => fX3_worth_l7 (48 + 4 * j) 12 a.1 a.2.1 a.2.2.1 a.2.2.2) (K + 1) (nI t, pB ps, nI i, σ)).bind fun r => wG (48 + 4 * j) r) = some (evS cs vs ℓ N (K + 1) t ps i (gI σ (51 + 4 * j)), σ') ∧ Sm scr σ σ' := fun {t' ps' σ1 S} e w hN' ht' hS s he => by
      obtain ⟨σ', g1, g2⟩ := ih t' (i + 1) ps' σ1 w (by omega) ht' (by omega)
      have : wh (fun a : Int32 × Int32 × Int32 × Mm => fX3_worth_l7 (48 + 4 * j) 12 a.1 a.2.1 a.2.2.1 a.2.2.2) (K + 1) (nI t, pB ps, nI i, σ) = wh (fun a : Int32 × Int32 × Int32 × Mm => fX3_worth_l7 (48 + 4 * j) 12 a.1 a.2.1 a.2.2.1 a.2.2.2) K (nI t', pB ps', nI (i + 1), σ1) := whL e
      rw [this, he, ← hS]
      exact ⟨σ', g1, s.tr g2⟩
    have b280 : ∀ (t' : Nat) (ps' : Bool) (σ1 : Mm), fX3_worth_b280 (48 + 4 * j) 12 (nI t') (pB ps') (nI i) σ1 = some (Sum.inl (nI t', pB ps', nI (i + 1), σ1)) := fun t' ps' σ1 => by unfold fX3_worth_b280; rw [nI_1]
    by_cases q0 : N ≤ i
    · have e : fX3_worth_l7 (48 + 4 * j) 12 (nI t) (pB ps) (nI i) σ = some (Sum.inr (Sum.inl (0, σ))) := by
        unfold fX3_worth_l7
        rw [h4, if_pos ((leT (by omega) (by omega)).mpr q0)]
      rw [done e]
      refine ⟨σ, ?_, Sm.rf⟩
      unfold evS
      rw [if_pos q0]
      rfl
    · have e0 := c_wl (t := t) hj hN h q0 (by omega)
      have hi' : i < N := by omega
      have ln12' : ln 12 = 6 := ln12
      cases ps with
      | true =>
        have e1 := e0 1
        rw [if_neg z1] at e1
        by_cases q59 : cs i = 59
        · rw [if_pos q59] at e1
          refine more (t' := t) (ps' := false) (σ1 := σ) (e1.trans (b280 t false σ)) h hi' ht rfl Sm.rf ?_
          rw [evS, if_neg q0, if_pos rfl, if_pos q59]
        · rw [if_neg q59] at e1
          refine more (t' := t) (ps' := true) (σ1 := σ) (e1.trans (b280 t true σ)) h hi' ht rfl Sm.rf ?_
          rw [evS, if_neg q0, if_pos rfl, if_neg q59]
      | false =>
        have e1 := e0 0
        have ff : ¬ false = true := by decide
        rw [if_pos rfl] at e1
        by_cases q59 : cs i = 59
        · rw [if_pos q59] at e1
          rw [done e1, evS, if_neg q0, if_neg ff, if_pos q59]
          refine ⟨σ, ?_, Sm.rf⟩
          unfold wG
          dsimp only [Sum.elim_inr]
          by_cases t0 : t = 0
          · subst t0
            rw [if_pos (show nI 0 ≤ 0 by decide), if_pos rfl]
          · rw [if_neg (show ¬ nI t ≤ 0 from fun z => absurd ((leT (b := 0) (by omega) (by omega)).mp z) (by omega)), h3, Option.bind_some, l3, if_neg (show ¬ nI 242 < nI t from fun z => absurd ((ltT (by omega) (by omega)).mp z) (by omega)), Int32.sub_eq_add_neg, nI_dec, if_neg t0, ixT (show t - 1 < 242 by omega) (by omega), if_pos rfl, clT (by omega), if_neg t0]
        · rw [if_neg q59] at e1
          by_cases q63 : cs i = 63
          · rw [if_pos q63, nI_dec] at e1
            by_cases t0 : t = 0
            · rw [if_pos t0, if_pos (show (-1 : Int32) < 0 by decide)] at e1
              refine more (t' := 0) (ps' := true) (σ1 := σ) (e1.trans (b280 0 true σ)) h hi' (by omega) rfl Sm.rf ?_
              rw [evS, if_neg q0, if_neg ff, if_neg q59, if_pos q63, if_pos t0]
            · rw [if_neg t0, if_neg (show ¬ nI (t - 1) < 0 from fun z => absurd ((ltT (b := 0) (by omega) (by omega)).mp z) (by omega)), h3, Option.bind_some, l3, ixT (show t - 1 < 242 by omega) (by omega), if_pos rfl, clT (by omega)] at e1
              by_cases s0 : gI σ (51 + 4 * j) (t - 1) = 0
              · rw [if_pos s0] at e1
                refine more (t' := 0) (ps' := true) (σ1 := σ) (e1.trans (b280 0 true σ)) h hi' (by omega) rfl Sm.rf ?_
                rw [evS, if_neg q0, if_neg ff, if_neg q59, if_pos q63, if_neg t0, if_pos s0]
              · rw [if_neg s0] at e1
                refine more (t' := 0) (ps' := false) (σ1 := σ) (e1.trans (b280 0 false σ)) h hi' (by omega) rfl Sm.rf ?_
                rw [evS, if_neg q0, if_neg ff, if_neg q59, if_pos q63, if_neg t0, if_neg s0]
          · rw [if_neg q63, h3, Option.bind_some, l3] at e1
            by_cases t2 : 242 ≤ t
            · rw [if_neg (show ¬ nI t < nI 242 from fun z => absurd ((ltT (by omega) (by omega)).mp z) (by omega))] at e1
              rw [done e1, evS, if_neg q0, if_neg ff, if_neg q59, if_neg q63, if_pos t2]
              exact ⟨σ, rfl, Sm.rf⟩
            · have xt : ixB (nI t) 242 = true := ixT (by omega) (by omega)
              have xi : ixB (nI i) 242 = true := ixT (by omega) (by omega)
              have ct : Int32.toNatClampNeg (nI t) = t := clT (by omega)
              rw [if_pos (show nI t < nI 242 from (ltT (by omega) (by omega)).mpr (by omega))] at e1
              have sc : ∀ k v, Sm scr σ (sI σ (51 + 4 * j) k v) := fun k v => Sm.rf.sI (by unfold scr; simp; omega)
              by_cases q48 : cs i = 48
              · rw [if_pos q48, h2, Option.bind_some, l2, if_pos xi, if_pos xt, ct, h6, nI_1] at e1
                refine more (t' := t + 1) (ps' := false) (e1.trans (b280 (t + 1) false _)) h.sI hi' (by omega) st_uw (sc _ _) ?_
                rw [evS, if_neg q0, if_neg ff, if_neg q59, if_neg q63, if_neg t2, if_pos q48]
              · rw [if_neg q48] at e1
                by_cases q97 : cs i = 97
                · obtain ⟨k, hk6, hv⟩ : ∃ k, k < 6 ∧ vs i = nI k := by
                    rcases hk i hi' with e | e | e | e | e | ⟨-, e⟩
                    · exact absurd e q59
                    · exact absurd e q63
                    · exact absurd e q48
                    · rw [q97] at e; exact absurd e (by decide)
                    · unfold isOp at e; rw [q97] at e; exact absurd e (by decide)
                    · exact e
                  rw [if_pos q97, h2, Option.bind_some, l2, if_pos xi, h6, hv, if_neg (show ¬ nI k < 0 from fun z => absurd ((ltT (b := 0) (by omega) (by omega)).mp z) (by omega)), if_pos xi, ln12', if_neg (show ¬ nI 6 ≤ nI k from fun z => absurd ((leT (by omega) (by omega)).mp z) (by omega)), if_pos xi, if_pos (ixT hk6 (by omega)), clT (by omega), h7 k hk6] at e1
                  unfold fX3_worth_b206 at e1
                  rw [l3, if_pos xt, ct, nI_1] at e1
                  refine more (t' := t + 1) (ps' := false) (e1.trans (b280 (t + 1) false _)) h.sI hi' (by omega) st_uw (sc _ _) ?_
                  rw [evS, if_neg q0, if_neg ff, if_neg q59, if_neg q63, if_neg t2, if_neg q48, if_pos q97, hv, clT (by omega)]
                · rw [if_neg q97] at e1
                  have hb : ∀ c, c = cs i → isOp c ∨ t ≤ 1 → fX3_worth_b245 (48 + 4 * j) 12 (nI t) 0 (nI i) c σ = if t ≤ 1 then some (Sum.inl (nI t, 0, nI (i + 1), σ)) else some (Sum.inl (nI (t - 1), 0, nI (i + 1), sI σ (51 + 4 * j) (t - 2) (jn c (gI σ (51 + 4 * j) (t - 2)) (gI σ (51 + 4 * j) (t - 1))))) := fun c hc ho => by
                    unfold fX3_worth_b245
                    by_cases t1 : t ≤ 1
                    · rw [if_pos t1, if_pos (show nI t ≤ 1 from (leT (b := 1) (by omega) (by omega)).mpr t1)]
                      exact b280 t false σ
                    · have ho' : isOp c := ho.resolve_right t1
                      rw [if_neg t1, if_neg (show ¬ nI t ≤ 1 from fun z => t1 ((leT (b := 1) (by omega) (by omega)).mp z)), h3, Option.bind_some, l3, nI_dec, if_neg (show ¬ t = 0 by omega), Int32.sub_eq_add_neg, nI_dec, if_neg (show ¬ t - 1 = 0 by omega), ixT (show t - 1 - 1 < 242 by omega) (by omega), if_pos rfl, ixT (show t - 1 < 242 by omega) (by omega), if_pos rfl, clT (by omega), clT (by omega), c_joined ho', Option.bind_some, if_pos rfl]
                      exact b280 (t - 1) false _
                  by_cases q33 : cs i = 33
                  · rw [if_pos q33] at e1
                    by_cases t0 : t = 0
                    · rw [if_pos (show nI t ≤ 0 from (leT (b := 0) (by omega) (by omega)).mpr (by omega)), hb _ rfl (Or.inr (by omega)), if_pos (by omega)] at e1
                      refine more (t' := t) (ps' := false) (σ1 := σ) e1 h hi' ht rfl Sm.rf ?_
                      rw [evS, if_neg q0, if_neg ff, if_neg q59, if_neg q63, if_neg t2, if_neg q48, if_neg q97, if_pos q33, if_pos t0]
                    · rw [if_neg (show ¬ nI t ≤ 0 from fun z => absurd ((leT (b := 0) (by omega) (by omega)).mp z) (by omega)), Int32.sub_eq_add_neg, nI_dec, if_neg t0, ixT (show t - 1 < 242 by omega) (by omega), if_pos rfl, if_pos rfl, clT (by omega)] at e1
                      refine more (t' := t) (ps' := false) (e1.trans (b280 t false _)) h.sI hi' ht st_uw (sc _ _) ?_
                      rw [evS, if_neg q0, if_neg ff, if_neg q59, if_neg q63, if_neg t2, if_neg q48, if_neg q97, if_pos q33, if_neg t0]
                  · have ho : isOp (cs i) := by
                      rcases hk i hi' with e | e | e | e | e | ⟨e, -⟩
                      · exact absurd e q59
                      · exact absurd e q63
                      · exact absurd e q48
                      · exact absurd e q33
                      · exact e
                      · exact absurd e q97
                    rw [if_neg q33, hb _ rfl (Or.inl ho)] at e1
                    by_cases t1 : t ≤ 1
                    · rw [if_pos t1] at e1
                      refine more (t' := t) (ps' := false) (σ1 := σ) e1 h hi' ht rfl Sm.rf ?_
                      rw [evS, if_neg q0, if_neg ff, if_neg q59, if_neg q63, if_neg t2, if_neg q48, if_neg q97, if_neg q33, if_pos t1]
                    · rw [if_neg t1] at e1
                      refine more (t' := t - 1) (ps' := false) e1 h.sI hi' (by omega) st_uw (sc _ _) ?_
                      rw [evS, if_neg q0, if_neg ff, if_neg q59, if_neg q63, if_neg t2, if_neg q48, if_neg q97, if_neg q33, if_neg t1]
end LawJ
