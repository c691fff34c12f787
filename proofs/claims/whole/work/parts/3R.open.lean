/-! text: a hall opened; the class -/
section OpenC
variable {σ τ : Mm} {np nr W H : Nat} {ru pg rd : Nat → Int32} {ruled : Bool}
def sStart (np nr : Nat) (ru pg rd : Nat → Int32) : Nat → Int32 := fun k => if k < 24 then (if k / 2 < np then (if k % 2 = 0 then pg (4 * (k / 2) + 1) else pg (4 * (k / 2) + 3)) else 0) else if k < 108 then (if (k - 24) % 14 = 0 ∧ (k - 24) / 14 < nr then rd (4 * ((k - 24) / 14)) else 0) else if k = 108 then ru 2 else 0
theorem st_dep {p : Nat} (hp : p < 12) : sStart np nr ru pg rd (2 * p) = if p < np then pg (4 * p + 1) else 0 := by
  unfold sStart
  rw [if_pos (by omega), show 2 * p / 2 = p by omega]
  by_cases q : p < np
  · rw [if_pos q, if_pos q, if_pos (by omega)]
  · rw [if_neg q, if_neg q]
theorem st_say {p : Nat} (hp : p < 12) : sStart np nr ru pg rd (2 * p + 1) = if p < np then pg (4 * p + 3) else 0 := by
  unfold sStart
  rw [if_pos (by omega), show (2 * p + 1) / 2 = p by omega]
  by_cases q : p < np
  · rw [if_pos q, if_pos q, if_neg (by omega)]
  · rw [if_neg q, if_neg q]
theorem st_cel {r : Nat} (hr : r < 6) : sStart np nr ru pg rd (24 + 14 * r) = if r < nr then rd (4 * r) else 0 := by
  unfold sStart
  rw [if_neg (by omega), if_pos (by omega), show (24 + 14 * r - 24) / 14 = r by omega]
  by_cases q : r < nr
  · rw [if_pos ⟨by omega, q⟩, if_pos q]
  · rw [if_neg (fun z => q z.2), if_neg q]
theorem st_zer {k : Nat} (h : 24 ≤ k) (h2 : k < 108) (h3 : ¬ (k - 24) % 14 = 0) : sStart np nr ru pg rd k = 0 := by
  unfold sStart
  rw [if_neg (by omega), if_pos h2, if_neg (fun z => h3 z.1)]
theorem st_cold : sStart np nr ru pg rd 108 = ru 2 ∧ sStart np nr ru pg rd 109 = 0 := by
  unfold sStart
  exact ⟨by rw [if_neg (by omega), if_neg (by omega), if_pos rfl], by rw [if_neg (by omega), if_neg (by omega), if_neg (by omega)]⟩
theorem kall : kLn 0 = 5 ∧ kLn 1 = 4 ∧ kLn 2 = 4 ∧ (kLo 0 0 = 1 ∧ kHi 0 0 = 6) ∧ (kLo 0 1 = 1 ∧ kHi 0 1 = 5) ∧ kHi 0 2 = 99 ∧ kHi 0 3 = 9 ∧ kHi 0 4 = 99 ∧ (kLo 1 1 = 1 ∧ kHi 1 1 = 9) ∧ kHi 1 2 = 4 ∧ kHi 1 3 = 9 ∧ kHi 2 1 = 9 ∧ kHi 2 2 = 9 ∧ kHi 2 3 = 4 := by decide +kernel
theorem HB_of (h : HS σ τ np nr ruled) (hW : gI σ 8 0 = nI W) (hH : gI σ 8 1 = nI H) (w1 : 1 ≤ W) (w6 : W ≤ 6) (h1 : 1 ≤ H) (h5 : H ≤ 5) (hw : WhOK σ np nr W H) : HB np nr W H (gI σ 8) (gI σ 9) (gI σ 10) := by
  obtain ⟨a1, a2, a3, a4, a5, a6, a7, a8, a9, a10, a11, a12⟩ := h
  obtain ⟨b1, b2, b3, b4⟩ := hw
  obtain ⟨k1, k2, k3, k4, k5, k6, k7, k8, k9, k10, k11, k12, k13, k14⟩ := kall
  have R := fun (k : Nat) (hk : k < 5) => a9 k (by rw [k1]; exact hk)
  refine ⟨a3, a6, w6, h5, hW, hH, fun _ => ⟨w1, h1, b2⟩, fun z => by omega, fun p hp => ⟨b3 p hp, ?_, ?_, ?_⟩, fun r hr => ⟨b4 r hr, ?_, ?_, ?_⟩, ?_, ?_, ?_⟩
  · obtain ⟨v, c1, c2, c3, c4⟩ := a11 p hp 1 (by rw [k2]; omega)
    exact ⟨v, by rw [← k9.1]; exact c1, by rw [← k9.2]; exact c2, c3⟩
  · obtain ⟨v, c1, c2, c3, c4⟩ := a11 p hp 2 (by rw [k2]; omega)
    exact ⟨v, by omega, c3⟩
  · obtain ⟨v, c1, c2, c3, c4⟩ := a11 p hp 3 (by rw [k2]; omega)
    exact ⟨v, by omega, c3⟩
  · obtain ⟨v, c1, c2, c3, c4⟩ := a12 r hr 1 (by rw [k3]; omega)
    exact ⟨v, by omega, c3⟩
  · obtain ⟨v, c1, c2, c3, c4⟩ := a12 r hr 2 (by rw [k3]; omega)
    exact ⟨v, by omega, c3⟩
  · obtain ⟨v, c1, c2, c3, c4⟩ := a12 r hr 3 (by rw [k3]; omega)
    exact ⟨v, by omega, c3⟩
  · obtain ⟨v, c1, c2, c3, c4⟩ := R 2 (by omega)
    rw [Nat.zero_add] at c3
    exact ⟨v, by omega, c3⟩
  · obtain ⟨v, c1, c2, c3, c4⟩ := R 3 (by omega)
    rw [Nat.zero_add] at c3
    exact ⟨v, by omega, c3⟩
  · obtain ⟨v, c1, c2, c3, c4⟩ := R 4 (by omega)
    rw [Nat.zero_add] at c3
    exact ⟨v, by omega, c3⟩
theorem st_wu (g : HB np nr W H ru pg rd) : WU 0 (sStart np nr ru pg rd) := by
  have hWH := WH_lt g
  obtain ⟨g1, g2, g3, g4, g5, g6, g7, g8, g9, g10, g11, g12, g13⟩ := g
  intro k hk
  by_cases q1 : k < 24
  · obtain ⟨p, hp, hk2⟩ : ∃ p, p < 12 ∧ (k = 2 * p ∨ k = 2 * p + 1) := ⟨k / 2, by omega, by omega⟩
    have hub : ub 0 k = 9 := by unfold ub; rw [if_pos q1]
    rw [hub]
    rcases hk2 with rfl | rfl
    · rw [st_dep hp]
      by_cases q : p < np
      · obtain ⟨-, ⟨d, d1, d2, d3⟩, -⟩ := g9 p q
        rw [if_pos q]; exact ⟨d, d2, d3⟩
      · rw [if_neg q]; exact ⟨0, by omega, rfl⟩
    · rw [st_say hp]
      by_cases q : p < np
      · obtain ⟨-, -, -, d, d2, d3⟩ := g9 p q
        rw [if_pos q]; exact ⟨d, by omega, d3⟩
      · rw [if_neg q]; exact ⟨0, by omega, rfl⟩
  · by_cases q2 : k < 108
    · by_cases q3 : (k - 24) % 14 = 0
      · obtain ⟨r, hr, rfl⟩ : ∃ r, r < 6 ∧ k = 24 + 14 * r := ⟨(k - 24) / 14, by omega, by omega⟩
        have hub : ub 0 (24 + 14 * r) = 29 := by unfold ub; rw [if_neg q1, if_pos q2, if_pos q3]
        rw [hub, st_cel hr]
        by_cases q : r < nr
        · obtain ⟨⟨c, c1, c2⟩, -⟩ := g10 r q
          rw [if_pos q]; exact ⟨c, by omega, c2⟩
        · rw [if_neg q]; exact ⟨0, by omega, rfl⟩
      · rw [st_zer (by omega) q2 q3]; exact ⟨0, by omega, rfl⟩
    · by_cases q3 : k = 108
      · subst q3
        obtain ⟨c, c1, c2⟩ := g11
        rw [st_cold.1, show ub 0 108 = 99 by decide]; exact ⟨c, by omega, c2⟩
      · have : k = 109 := by omega
        subst this
        rw [st_cold.2]; exact ⟨0, by omega, rfl⟩
theorem st_wz : WZ np nr (sStart np nr ru pg rd) :=
  ⟨fun r p hr h1 h2 => st_zer (by omega) (by omega) (by omega), fun r h1 h2 => st_zer (by omega) (by omega) (by omega)⟩
/-- the hall takes what was read -/
theorem c_hallTake (hF : RF σ) (n1 : np ≤ 12) (n2 : nr ≤ 6) (e1 : gI σ 7 4 = nI np) (e2 : gI σ 7 5 = nI nr) : ∃ σ', fX1_takeFrom 3 7 σ = some σ' ∧ Sm (fun c _ => decide (3 ≤ c) && decide (c ≤ 6)) σ σ' ∧ HC σ' 3 np nr (gI σ 8) (gI σ 9) (gI σ 10) := by
  obtain ⟨a0, a1, a2, a3⟩ := hF.2.2.1 3 (Or.inl rfl)
  obtain ⟨b0, b1, b2, b3⟩ := hF.2.2.1 7 (Or.inr rfl)
  have l4 : ln 4 = 5 ∧ ln 5 = 48 ∧ ln 6 = 24 := by decide +kernel
  obtain ⟨m8, m9, m10, -⟩ := lnH
  unfold fX1_takeFrom
  rw [b1, Option.bind_some, a1, Option.bind_some, m8, l4.1, if_pos (cpB0 (by omega)), b2, Option.bind_some, a2, Option.bind_some, m9, l4.2.1, if_pos (cpB0 (by omega)), b3, Option.bind_some, a3, Option.bind_some, m10, l4.2.2, if_pos (cpB0 (by omega))]
  simp only [cpy0 _ _ (show 5 < 2147483648 by omega), cpy0 _ _ (show 48 < 2147483648 by omega), cpy0 _ _ (show 24 < 2147483648 by omega)]
  generalize h1 : sA σ 4 (cp0 (gI σ 8) (gI σ 4) 5) = τ1
  generalize h2 : sA τ1 5 (cp0 (gI τ1 9) (gI τ1 5) 48) = τ2
  generalize h3 : sA τ2 6 (cp0 (gI τ2 10) (gI τ2 6) 24) = τ3
  have q1 : ∀ c k, gI τ1 c k = if c = 4 then cp0 (gI σ 8) (gI σ 4) 5 k else gI σ c k := fun c k => by rw [← h1, gI_sA]
  have q2 : ∀ c k, gI τ2 c k = if c = 5 then cp0 (gI τ1 9) (gI τ1 5) 48 k else gI τ1 c k := fun c k => by rw [← h2, gI_sA]
  have q3 : ∀ c k, gI τ3 c k = if c = 6 then cp0 (gI τ2 10) (gI τ2 6) 24 k else gI τ2 c k := fun c k => by rw [← h3, gI_sA]
  have s3 : Sm (fun c _ => decide (3 ≤ c) && decide (c ≤ 6)) σ τ3 := by
    rw [← h3, ← h2, ← h1]
    exact ((Sm.rf.sA (fun _ => rfl)).sA (fun _ => rfl)).sA (fun _ => rfl)
  have s5 := (s3.sI (c := 3) (k := 4) (v := gI τ3 7 4) rfl).sI (c := 3) (k := 5) (v := gI (sI τ3 3 4 (gI τ3 7 4)) 7 5) rfl
  refine ⟨_, rfl, s5, (s5.2.2 _ _ (by omega)).trans a1, (s5.2.2 _ _ (by omega)).trans a2, (s5.2.2 _ _ (by omega)).trans a3, l4.1, l4.2.1, l4.2.2, ?_, ?_, fun k hk => ?_, fun k hk => ?_, fun k hk => ?_⟩
  · rw [gI_sI, if_neg (by omega), gI_sI, if_pos ⟨rfl, rfl⟩, s3.1 7 4 rfl]; exact e1
  · rw [gI_sI, if_pos ⟨rfl, rfl⟩, gI_sI, if_neg (by omega), s3.1 7 5 rfl]; exact e2
  · rw [gI_sI, if_neg (by omega), gI_sI, if_neg (by omega), q3, if_neg (by omega), q2, if_neg (by omega), q1, if_pos rfl]
    unfold cp0; rw [if_pos hk]
  · rw [gI_sI, if_neg (by omega), gI_sI, if_neg (by omega), q3, if_neg (by omega), q2, if_pos rfl]
    unfold cp0; rw [if_pos (by omega), q1, if_neg (by omega)]
  · rw [gI_sI, if_neg (by omega), gI_sI, if_neg (by omega), q3, if_pos rfl]
    unfold cp0; rw [if_pos (by omega), q2, if_neg (by omega), q1, if_neg (by omega)]
/-- the snow of the first day -/
theorem c_startIn (g : HB np nr W H ru pg rd) (hH : HC σ 3 np nr ru pg rd) (hR : SR σ 89) : ∃ σ', fX6_startIn 89 3 σ = some σ' ∧ Sm (sS 89) σ σ' ∧ SC σ' 89 (sStart np nr ru pg rd) := by
  have g1 := g.1
  have g2 := g.2.1
  have nh : ∀ k, sS 89 3 k = false ∧ sS 89 4 k = false ∧ sS 89 5 k = false ∧ sS 89 6 k = false := fun k => ⟨rfl, rfl, rfl, rfl⟩
  have hH' : ∀ {s : Mm}, Sm (sS 89) σ s → HC s 3 np nr ru pg rd := fun s => hH.sm s (by omega) (fun j k hj => by unfold sS; simp; omega)
  have hR' : ∀ {s : Mm}, Sm (sS 89) σ s → SR s 89 := fun s => hR.sm s (by omega)
  have A : ∃ s, fX6_startIn_w2 89 3 0 σ = some s ∧ (Sm (sS 89) σ s ∧ ∀ p, p < 12 → gI s 90 p = sStart np nr ru pg rd (2 * p) ∧ gI s 91 p = sStart np nr ru pg rd (2 * p + 1)) := by
    unfold fX6_startIn_w2
    refine wh_inv (fun i a => a.1 = nI i ∧ Sm (sS 89) σ a.2 ∧ ∀ p, p < i → gI a.2 90 p = sStart np nr ru pg rd (2 * p) ∧ gI a.2 91 p = sStart np nr ru pg rd (2 * p + 1)) _ 12 BIG 0 _ (Nat.zero_le _) (by unfold BIG; omega) ⟨rfl, Sm.rf, fun p hp => by omega⟩ ?_ ?_
    · rintro i ⟨j, x⟩ hi ⟨e2, e3, e4⟩
      simp only at e2 e3 e4
      subst e2
      left
      have e6 : ¬ (12 : Int32) ≤ nI i := fun z => absurd ((leT (a := 12) (by omega) (by omega)).mp z) (by omega)
      have hx := hH' e3
      obtain ⟨c1, c2, c3, c4, c5, c6, c7, c8⟩ := hR' e3
      have xi : ixB (nI i) 12 = true := ixT (by omega) (by omega)
      have ci : Int32.toNatClampNeg (nI i) = i := clT (by omega)
      have done : ∀ u v, u = sStart np nr ru pg rd (2 * i) → v = sStart np nr ru pg rd (2 * i + 1) → ∃ a', (some (Sum.inl (nI i + 1, sI (sI x 90 i u) 91 i v)) : Option ((Int32 × Mm) ⊕ Mm)) = some (Sum.inl a') ∧ a'.1 = nI (i + 1) ∧ Sm (sS 89) σ a'.2 ∧ ∀ p, p < i + 1 → gI a'.2 90 p = sStart np nr ru pg rd (2 * p) ∧ gI a'.2 91 p = sStart np nr ru pg rd (2 * p + 1) := fun u v hu hv => by
        refine ⟨_, rfl, nI_1 i, (e3.sI rfl).sI rfl, fun p hp => ?_⟩
        dsimp only
        rw [gI_sI, if_neg (by omega), gI_sI, gI_sI]
        by_cases z : p = i
        · rw [if_pos ⟨rfl, z⟩, if_pos ⟨rfl, z⟩, z]; exact ⟨hu, hv⟩
        · rw [if_neg (fun y => z y.2), if_neg (fun y => z y.2), gI_sI, if_neg (by omega)]; exact e4 p (by omega)
      unfold fX6_startIn_l2 fX6_startIn_b30 fX6_startIn_b53
      rw [if_neg e6, c1, Option.bind_some]
      by_cases q : i < np
      · have hx2 := hH' (e3.sI (c := 90) (k := i) (v := pg (4 * i + 1)) rfl)
        rw [c_hasPage g hx q, Option.bind_some, if_neg z1, c_pageDepth g hx q, Option.bind_some, c5, if_pos xi, ci, c2, Option.bind_some, c_hasPage g hx2 q, Option.bind_some, if_neg z1, c_pageSays g hx2 q, Option.bind_some, c6, if_pos xi]
        exact done _ _ (by rw [st_dep hi, if_pos q]) (by rw [st_say hi, if_pos q])
      · have hx2 := hH' (e3.sI (c := 90) (k := i) (v := 0) rfl)
        have ho : ¬ ∃ p, p < np ∧ nI i = nI p := fun ⟨p, h1, h2⟩ => by
          have := (eqT (by omega) (by omega)).mp h2
          omega
        rw [c_hasPage_out g hx ho, Option.bind_some, if_pos rfl, c5, if_pos xi, ci, c2, Option.bind_some, c_hasPage_out g hx2 ho, Option.bind_some, if_pos rfl, c6, if_pos xi]
        exact done _ _ (by rw [st_dep hi, if_neg q]) (by rw [st_say hi, if_neg q])
    · rintro ⟨j, x⟩ ⟨e2, e3, e4⟩
      simp only at e2 e3 e4
      subst e2
      unfold fX6_startIn_l2
      rw [if_pos (show (12 : Int32) ≤ nI 12 by decide)]
      exact ⟨_, rfl, e3, e4⟩
  obtain ⟨s1, k1, k2, k3⟩ := A
  have B : ∃ s, fX6_startIn_w62 89 3 0 s1 = some s ∧ (Sm (sS 89) σ s ∧ (∀ p, p < 12 → gI s 90 p = sStart np nr ru pg rd (2 * p) ∧ gI s 91 p = sStart np nr ru pg rd (2 * p + 1)) ∧ ∀ r, r < 6 → gI s 92 r = sStart np nr ru pg rd (24 + 14 * r)) := by
    unfold fX6_startIn_w62
    refine wh_inv (fun i a => a.1 = nI i ∧ Sm (sS 89) σ a.2 ∧ (∀ p, p < 12 → gI a.2 90 p = sStart np nr ru pg rd (2 * p) ∧ gI a.2 91 p = sStart np nr ru pg rd (2 * p + 1)) ∧ ∀ r, r < i → gI a.2 92 r = sStart np nr ru pg rd (24 + 14 * r)) _ 6 BIG 0 _ (Nat.zero_le _) (by unfold BIG; omega) ⟨rfl, k2, k3, fun p hp => by omega⟩ ?_ ?_
    · rintro i ⟨j, x⟩ hi ⟨e2, e3, e4, e5⟩
      simp only at e2 e3 e4 e5
      subst e2
      left
      have e6 : ¬ (6 : Int32) ≤ nI i := fun z => absurd ((leT (a := 6) (by omega) (by omega)).mp z) (by omega)
      have hx := hH' e3
      obtain ⟨c1, c2, c3, c4, c5, c6, c7, c8⟩ := hR' e3
      have xi : ixB (nI i) 6 = true := ixT (by omega) (by omega)
      have ci : Int32.toNatClampNeg (nI i) = i := clT (by omega)
      have done : ∀ u, u = sStart np nr ru pg rd (24 + 14 * i) → ∃ a', (some (Sum.inl (nI i + 1, sI x 92 i u)) : Option ((Int32 × Mm) ⊕ Mm)) = some (Sum.inl a') ∧ a'.1 = nI (i + 1) ∧ Sm (sS 89) σ a'.2 ∧ (∀ p, p < 12 → gI a'.2 90 p = sStart np nr ru pg rd (2 * p) ∧ gI a'.2 91 p = sStart np nr ru pg rd (2 * p + 1)) ∧ ∀ r, r < i + 1 → gI a'.2 92 r = sStart np nr ru pg rd (24 + 14 * r) := fun u hu => by
        refine ⟨_, rfl, nI_1 i, e3.sI rfl, fun p hp => ?_, fun r hr => ?_⟩
        · dsimp only
          rw [gI_sI, if_neg (by omega), gI_sI, if_neg (by omega)]; exact e4 p hp
        · dsimp only
          rw [gI_sI]
          by_cases z : r = i
          · rw [if_pos ⟨rfl, z⟩, z]; exact hu
          · rw [if_neg (fun y => z y.2)]; exact e5 r (by omega)
      unfold fX6_startIn_l62 fX6_startIn_b90
      rw [if_neg e6, c3, Option.bind_some]
      by_cases q : i < nr
      · rw [c_hasReader g hx q, Option.bind_some, if_neg z1, c_readerCell g hx q, Option.bind_some, c7, if_pos xi, ci]
        exact done _ (by rw [st_cel hi, if_pos q])
      · have ho : ¬ ∃ p, p < nr ∧ nI i = nI p := fun ⟨p, h1, h2⟩ => by
          have := (eqT (by omega) (by omega)).mp h2
          omega
        rw [c_hasReader_out g hx ho, Option.bind_some, if_pos rfl, c7, if_pos xi, ci]
        exact done _ (by rw [st_cel hi, if_neg q])
    · rintro ⟨j, x⟩ ⟨e2, e3, e4, e5⟩
      simp only at e2 e3 e4 e5
      subst e2
      unfold fX6_startIn_l62
      rw [if_pos (show (6 : Int32) ≤ nI 6 by decide)]
      exact ⟨_, rfl, e3, e4, e5⟩
  obtain ⟨s2, j1, j2, j3, j4⟩ := B
  obtain ⟨c1, c2, c3, c4, c5, c6, c7, c8⟩ := hR' j2
  have Cf : ∃ s, fJ7_fill_53178 93 (-1) s2 = some s ∧ (Sm (sS 89) σ s ∧ Sm (fun c _ => c == 93) s2 s ∧ ∀ k, k < 72 → gI s 93 k = -1) := by
    unfold fJ7_fill_53178 fJ7_fill_53178_w5
    have key : ∃ s, wh (fun a : Int32 × Mm => fJ7_fill_53178_l5 93 (-1) (nI (ln 93)) a.1 a.2) BIG (0, s2) = some s ∧ (Sm (sS 89) σ s ∧ Sm (fun c _ => c == 93) s2 s ∧ ∀ k, k < 72 → gI s 93 k = -1) := by
      refine wh_inv (fun i a => a.1 = nI i ∧ Sm (sS 89) σ a.2 ∧ Sm (fun c _ => c == 93) s2 a.2 ∧ ∀ k, k < i → gI a.2 93 k = -1) _ 72 BIG 0 _ (Nat.zero_le _) (by unfold BIG; omega) ⟨rfl, j2, Sm.rf, fun p hp => by omega⟩ ?_ ?_
      · rintro i ⟨j, x⟩ hi ⟨e2, e3, e3b, e4⟩
        simp only at e2 e3 e3b e4
        subst e2
        left
        unfold fJ7_fill_53178_l5
        rw [c8, if_neg (show ¬ nI 72 ≤ nI i from fun z => absurd ((leT (by omega) (by omega)).mp z) (by omega)), if_pos (ixT (by omega) (by omega)), clT (by omega)]
        refine ⟨_, rfl, nI_1 i, e3.sI rfl, e3b.sI rfl, fun k hk => ?_⟩
        dsimp only
        rw [gI_sI]
        by_cases z : k = i
        · rw [if_pos ⟨rfl, z⟩]
        · rw [if_neg (fun y => z y.2)]; exact e4 k (by omega)
      · rintro ⟨j, x⟩ ⟨e2, e3, e3b, e4⟩
        simp only at e2 e3 e3b e4
        subst e2
        unfold fJ7_fill_53178_l5
        rw [c8, if_pos (Int32.le_refl _)]
        exact ⟨_, rfl, e3, e3b, e4⟩
    obtain ⟨s, a1, a2⟩ := key
    rw [a1]
    exact ⟨s, rfl, a2⟩
  obtain ⟨s3, i1, i2, i3, i4⟩ := Cf
  have s4 : Sm (sS 89) σ (sI s3 89 4 0) := i2.sI rfl
  unfold fX6_startIn
  rw [k1, Option.bind_some]
  try dsimp only
  rw [j1, Option.bind_some]
  try dsimp only
  rw [c4, Option.bind_some, i1, Option.bind_some, (c_rules (hH' s4)).2.2.1, Option.bind_some]
  refine ⟨_, rfl, (s4.sI rfl).sI rfl, fun p hp => ?_, fun p hp => ?_, fun r hr => ?_, fun r p hr hp => ?_, ?_, ?_, 0, by omega, ?_, fun r hr => ?_⟩
  · rw [gI_sI, if_neg (by omega), gI_sI, if_neg (by omega), gI_sI, if_neg (by omega), i3.1 90 p rfl]; exact (j3 p hp).1
  · rw [gI_sI, if_neg (by omega), gI_sI, if_neg (by omega), gI_sI, if_neg (by omega), i3.1 91 p rfl]; exact (j3 p hp).2
  · rw [gI_sI, if_neg (by omega), gI_sI, if_neg (by omega), gI_sI, if_neg (by omega), i3.1 92 r rfl]; exact j4 r hr
  · rw [gI_sI, if_neg (by omega), gI_sI, if_neg (by omega), gI_sI, if_neg (by omega), i4 _ (by omega), st_zer (by omega) (by omega) (by omega)]; rfl
  · rw [gI_sI, if_neg (by omega), gI_sI, if_pos ⟨rfl, rfl⟩, st_cold.1]
  · rw [gI_sI, if_pos ⟨rfl, rfl⟩, st_cold.2]
  · rw [gI_sI, if_neg (by omega), gI_sI, if_neg (by omega), gI_sI, if_pos ⟨rfl, rfl⟩]; rfl
  · rw [st_zer (by omega) (by omega) (by omega), show 0 / 2 ^ r % 2 = 0 by rw [Nat.zero_div]]; rfl
end OpenC
