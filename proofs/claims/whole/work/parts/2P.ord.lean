/-! exam -/
section Exam
variable {σ τ : Mm} {D np nr W H S acts nl : Nat} {ru pg rd w v : Nat → Int32} {F : Nat → LF} {lw : Option LF} {jl pw : Nat → Nat → Int32}
theorem rng_t {α : Type} {x lo hi : Int32} {A B : α} (h1 : ¬ x < lo) (h2 : ¬ hi < x) : (if x < lo then A else if hi < x then A else B) = B := by rw [if_neg h1, if_neg h2]
theorem rng_f {α : Type} {x lo hi : Int32} {A B : α} (h : x < lo ∨ hi < x) : (if x < lo then A else if hi < x then A else B) = A := by
  by_cases q : x < lo
  · rw [if_pos q]
  · rw [if_neg q, if_pos (h.resolve_left q)]
theorem bd_in {x : Int32} {a b : Nat} (h : ∃ k, a ≤ k ∧ k ≤ b ∧ x = nI k) (ha : a < 2147483648) (hb : b < 2147483648) : ¬ x < nI a ∧ ¬ nI b < x := by
  obtain ⟨k, h1, h2, rfl⟩ := h
  exact ⟨fun z => absurd ((ltT (by omega) (by omega)).mp z) (by omega), fun z => absurd ((ltT (by omega) (by omega)).mp z) (by omega)⟩
theorem bd_out {x : Int32} {a b : Nat} (h : ¬ ∃ k, a ≤ k ∧ k ≤ b ∧ x = nI k) (ha : a < 2147483648) (hb : b < 2147483648) : x < nI a ∨ nI b < x := by
  by_cases q : x < nI a
  · exact Or.inl q
  · by_cases q2 : nI b < x
    · exact Or.inr q2
    · exfalso
      have h0 : ¬ x < 0 := fun z => q (Int32.lt_of_lt_of_le z ((leT (a := 0) (by omega) (by omega)).mpr (by omega)))
      obtain ⟨j, hj, rfl⟩ := nI_of h0
      refine h ⟨j, ?_, ?_, rfl⟩
      · rcases Nat.lt_or_ge j a with z | z
        · exact absurd ((ltT (by omega) (by omega)).mpr z) q
        · exact z
      · rcases Nat.lt_or_ge b j with z | z
        · exact absurd ((ltT (by omega) (by omega)).mpr z) q2
        · exact z
theorem nI_dec (m : Nat) : nI m + -1 = if m = 0 then -1 else nI (m - 1) := by
  by_cases q : m = 0
  · subst q; rw [if_pos rfl]; rfl
  · rw [if_neg q]
    have e : nI m = nI (m - 1) + 1 := by rw [nI_1]; congr 1; omega
    rw [e, Int32.add_assoc, show (1 : Int32) + -1 = 0 by decide, Int32.add_zero]
theorem ex_upd {s t : Mm} {m : Nat} {x : Int64} (h : ∀ k, k < 14 → gL s 16 k = gL t 331 k) (hm : m + 1 < 14) : ∀ k, k < 14 → gL (sL (sL s 16 m (gL s 16 m - x)) 16 (m + 1) (gL (sL s 16 m (gL s 16 m - x)) 16 (m + 1) + x)) 16 k = gL (sL (sL t 331 (m + 1) (gL t 331 (m + 1) + x)) 331 m (gL (sL t 331 (m + 1) (gL t 331 (m + 1) + x)) 331 m - x)) 331 k := by
  intro k hk
  simp only [gL_sL, true_and, if_true]
  by_cases q : k = m
  · subst q
    rw [if_neg (show ¬ k = k + 1 by omega), if_pos rfl, if_pos rfl, if_neg (show ¬ k = k + 1 by omega), h k hk]
  · by_cases q2 : k = m + 1
    · subst q2
      rw [if_pos rfl, if_neg q, if_neg q, if_pos rfl, h _ hk]
    · rw [if_neg q2, if_neg q, if_neg q, if_neg q2, h k hk]
theorem ln16 : ln 16 = 14 ∧ ln 331 = 14 ∧ ln 14 = 6 ∧ ln 15 = 64 ∧ ln 330 = 72 := by decide +kernel
theorem sCq_lo {a b : Mm} {T : Nat → Nat → Bool} (h : Sm T a b) (hT : ∀ c k, ¬ (13 ≤ c ∧ c ≤ 46) → T c k = false) : Sm sCq a b := h.mono (fun c k hc => hT c k (by
  unfold sCq at hc
  simp only [Bool.or_eq_false_iff, Bool.and_eq_false_imp, decide_eq_true_eq, decide_eq_false_iff_not] at hc
  omega))
theorem ex_fill (f4 : gR σ 13 5 = some 16) : ∃ s, fJ7_fill_d0a16 16 0 σ = some s ∧ (Sm (fun c _ => c == 16) σ s ∧ ∀ k, k < 14 → gL s 16 k = 0) := by
  have l16 := ln16.1
  unfold fJ7_fill_d0a16 fJ7_fill_d0a16_w6
  have key : ∃ s, wh (fun a : Int32 × Mm => fJ7_fill_d0a16_l6 16 0 (nI (ln 16)) a.1 a.2) BIG (0, σ) = some s ∧ (Sm (fun c _ => c == 16) σ s ∧ ∀ k, k < 14 → gL s 16 k = 0) := by
    refine wh_inv (fun i a => a.1 = nI i ∧ Sm (fun c _ => c == 16) σ a.2 ∧ ∀ k, k < i → gL a.2 16 k = 0) _ 14 BIG 0 _ (Nat.zero_le _) (by unfold BIG; omega) ⟨rfl, Sm.rf, fun k hk => by omega⟩ ?_ ?_
    · rintro i ⟨j, s⟩ hi ⟨e1, e2, e3⟩
      simp only at e1 e2 e3
      subst e1
      left
      unfold fJ7_fill_d0a16_l6
      rw [l16, if_neg (fun z => absurd ((leT (by omega) (by omega)).mp z) (by omega)), if_pos (ixT (by omega) (by omega)), clT (by omega), nI_1]
      refine ⟨_, rfl, rfl, e2.sL rfl, fun k hk => ?_⟩
      dsimp only
      rw [gL_sL]
      by_cases q : k = i
      · rw [if_pos ⟨rfl, q⟩]
      · rw [if_neg (fun z => q z.2)]; exact e3 k (by omega)
    · rintro ⟨j, s⟩ ⟨e1, e2, e3⟩
      simp only at e1 e2 e3
      subst e1
      unfold fJ7_fill_d0a16_l6
      rw [l16, if_pos (Int32.le_refl _)]
      exact ⟨_, rfl, e2, e3⟩
  obtain ⟨s, k1, k2⟩ := key
  exact ⟨s, by rw [k1]; rfl, k2⟩
theorem ex_ini (r49 : gR τ 310 49 = some 331) (x y z : Int32) : ∃ t, fX10_exam_w46 310 x y z 0 τ = some t ∧ (Sm (fun c _ => c == 331) τ t ∧ ∀ k, k < 14 → gL t 331 k = if k = 0 then 1000000000 else 0) := by
  have l331 := ln16.2.1
  unfold fX10_exam_w46
  refine wh_inv (fun i a => a.1 = nI i ∧ Sm (fun c _ => c == 331) τ a.2 ∧ ∀ k, k < i → gL a.2 331 k = if k = 0 then 1000000000 else 0) _ 14 BIG 0 _ (Nat.zero_le _) (by unfold BIG; omega) ⟨rfl, Sm.rf, fun k hk => by omega⟩ ?_ ?_
  · rintro i ⟨j, s⟩ hi ⟨e1, e2, e3⟩
    simp only at e1 e2 e3
    subst e1
    left
    have r49' : gR s 310 49 = some 331 := by rw [e2.2.2 _ _ (by omega)]; exact r49
    have x1 : ixB (nI i) 14 = true := ixT hi (by omega)
    unfold fX10_exam_l46 fX10_exam_b71
    simp only [if_neg (show ¬ (14 : Int32) ≤ nI i from fun z => absurd ((leT (a := 14) (by omega) (by omega)).mp z) (by omega)), r49', Option.bind_some, l331, x1, if_true, clT (show i < 2147483648 by omega), nI_1]
    by_cases q : i = 0
    · subst q
      simp only [show nI 0 = 0 from rfl, if_true]
      refine ⟨_, rfl, rfl, e2.sL rfl, fun k hk => ?_⟩
      dsimp only
      rw [gL_sL, if_pos ⟨rfl, by omega⟩, if_pos (by omega)]
    · simp only [if_neg (nI_ne0 (show 0 < i by omega) (by omega))]
      refine ⟨_, rfl, rfl, e2.sL rfl, fun k hk => ?_⟩
      dsimp only
      rw [gL_sL]
      by_cases q2 : k = i
      · rw [if_pos ⟨rfl, q2⟩, if_neg (by omega)]
      · rw [if_neg (fun z => q2 z.2)]; exact e3 k (by omega)
  · rintro ⟨j, s⟩ ⟨e1, e2, e3⟩
    simp only at e1 e2 e3
    subst e1
    unfold fX10_exam_l46
    rw [if_pos (show (14 : Int32) ≤ nI 14 from Int32.le_refl _)]
    exact ⟨_, rfl, e2, e3⟩
theorem ex_inner {s0 t0 : Mm} {i : Nat} (hi : i < 12) (f4 : gR s0 13 5 = some 16) (r49 : gR t0 310 49 = some 331) (h : ∀ k, k < 14 → gL s0 16 k = gL t0 331 k) (x y z x' y' : Int32) (u u' : Int32) : ∃ s' t', fX0_passing_w35 13 x y z u (nI i) s0 = some s' ∧ fX10_exam_w91 310 x' y' z u' (nI i) t0 = some t' ∧ (Sm (fun c _ => c == 16) s0 s' ∧ Sm (fun c _ => c == 331) t0 t' ∧ ∀ k, k < 14 → gL s' 16 k = gL t' 331 k) := by
  have l16 := ln16.1
  have l331 := ln16.2.1
  unfold fX0_passing_w35 fX10_exam_w91
  refine wh_two (fun l a c => a.1 = c.1 ∧ a.1 = (if l ≤ i then nI (i - l) else -1) ∧ Sm (fun c _ => c == 16) s0 a.2 ∧ Sm (fun c _ => c == 331) t0 c.2 ∧ ∀ k, k < 14 → gL a.2 16 k = gL c.2 331 k) _ (i + 1) BIG 0 _ _ (Nat.zero_le _) (by unfold BIG; omega) ⟨rfl, rfl, Sm.rf, Sm.rf, h⟩ ?_ ?_
  · rintro l ⟨j, s⟩ ⟨j', t⟩ hl ⟨e1, e2, e3, e4, e5⟩
    simp only at e1 e2 e3 e4 e5
    subst e1
    rw [if_pos (by omega)] at e2
    subst e2
    left
    obtain ⟨q, hq⟩ : ∃ q, q = i - l := ⟨_, rfl⟩
    rw [← hq]
    have hq12 : q < 12 := by omega
    have nx : nI q + -1 = if l + 1 ≤ i then nI (i - (l + 1)) else -1 := by
      rw [nI_dec]
      by_cases z : q = 0
      · rw [if_pos z, if_neg (by omega)]
      · rw [if_neg z, if_pos (by omega)]; exact congrArg nI (by omega)
    have f4' : gR s 13 5 = some 16 := by rw [e3.2.2 _ _ (by omega)]; exact f4
    have r49' : gR t 310 49 = some 331 := by rw [e4.2.2 _ _ (by omega)]; exact r49
    clear hq hl hi h
    have x1 : ixB (nI q) 14 = true := ixT (by omega) (by omega)
    have x2 : ixB (nI (q + 1)) 14 = true := ixT (by omega) (by omega)
    have x3 : ¬ nI q < 0 := nI_pos (by omega)
    have x4 : Int32.toNatClampNeg (nI q) = q := clT (by omega)
    have x5 : Int32.toNatClampNeg (nI (q + 1)) = q + 1 := clT (by omega)
    unfold fX0_passing_l35 fX10_exam_l91
    simp only [if_neg x3, f4', r49', Option.bind_some, l16, l331, nI_1, x1, x2, if_true, x4, x5, nx]
    refine ⟨_, _, rfl, rfl, rfl, rfl, (e3.sL rfl).sL rfl, (e4.sL rfl).sL rfl, ?_⟩
    dsimp only
    have := ex_upd (x := gL t 331 q * Int32.toInt64 z / 100) e5 (show q + 1 < 14 by omega)
    rw [e5 q (by omega)] at this ⊢
    exact this
  · rintro ⟨j, s⟩ ⟨j', t⟩ ⟨e1, e2, e3, e4, e5⟩
    simp only at e1 e2 e3 e4 e5
    subst e1
    rw [if_neg (by omega)] at e2
    subst e2
    unfold fX0_passing_l35 fX10_exam_l91
    simp only [show (-1 : Int32) < 0 by decide, if_true]
    exact ⟨_, _, rfl, rfl, e3, e4, e5⟩
theorem ex_main {s0 t0 : Mm} {n : Nat} (hn : n ≤ 12) (f4 : gR s0 13 5 = some 16) (r49 : gR t0 310 49 = some 331) (h : ∀ k, k < 14 → gL s0 16 k = gL t0 331 k) (y z y' : Int32) : ∃ s t, fX0_passing_w20 13 (nI n) y z 0 s0 = some s ∧ fX10_exam_w81 310 (nI n) y' z 0 t0 = some t ∧ (Sm (fun c _ => c == 16) s0 s ∧ Sm (fun c _ => c == 331) t0 t ∧ ∀ k, k < 14 → gL s 16 k = gL t 331 k) := by
  unfold fX0_passing_w20 fX10_exam_w81
  refine wh_two (fun i a c => a.1 = nI i ∧ c.1 = nI i ∧ Sm (fun c _ => c == 16) s0 a.2 ∧ Sm (fun c _ => c == 331) t0 c.2 ∧ ∀ k, k < 14 → gL a.2 16 k = gL c.2 331 k) _ n BIG 0 _ _ (Nat.zero_le _) (by unfold BIG; omega) ⟨rfl, rfl, Sm.rf, Sm.rf, h⟩ ?_ ?_
  · rintro i ⟨j, s⟩ ⟨j', t⟩ hi ⟨e1, e2, e3, e4, e5⟩
    simp only at e1 e2 e3 e4 e5
    subst e1 e2
    left
    obtain ⟨s', t', k1, k2, k3, k4, k5⟩ := ex_inner (i := i) (by omega) (by rw [e3.2.2 _ _ (by omega)]; exact f4) (by rw [e4.2.2 _ _ (by omega)]; exact r49) e5 (nI n) y z (nI n) y' (nI i) (nI i)
    have e6 : ¬ nI n ≤ nI i := fun z => absurd ((leT (by omega) (by omega)).mp z) (by omega)
    have emin : minI (nI i) 12 = nI i := by
      rw [show (12 : Int32) = nI 12 from rfl, minN _ _ (by omega) (by omega)]; exact congrArg nI (by omega)
    unfold fX0_passing_l20 fX10_exam_l81
    simp only [if_neg e6, emin, k1, k2, Option.bind_some]
    exact ⟨_, _, rfl, rfl, nI_1 i, nI_1 i, e3.tr k3, e4.tr k4, k5⟩
  · rintro ⟨j, s⟩ ⟨j', t⟩ ⟨e1, e2, e3, e4, e5⟩
    simp only at e1 e2 e3 e4 e5
    subst e1 e2
    unfold fX0_passing_l20 fX10_exam_l81
    simp only [if_pos (Int32.le_refl _)]
    exact ⟨_, _, rfl, rfl, e3, e4, e5⟩
theorem ex_sum {s t : Mm} {m : Nat} (hm : m ≤ 13) (f4 : gR s 13 5 = some 16) (r49 : gR t 310 49 = some 331) (h : ∀ k, k < 14 → gL s 16 k = gL t 331 k) : ∃ b, fX0_passing_w104 13 0 (nI m) s = some b ∧ fX10_exam_w156 310 0 (nI m) t = some b := by
  have l16 := ln16.1
  have l331 := ln16.2.1
  have key : ∃ b d, fX0_passing_w104 13 0 (nI m) s = some b ∧ fX10_exam_w156 310 0 (nI m) t = some d ∧ b = d := by
    unfold fX0_passing_w104 fX10_exam_w156
    refine wh_two (fun l a c => a = c ∧ a.2 = nI (m + l)) _ (14 - m) BIG 0 _ _ (Nat.zero_le _) (by unfold BIG; omega) ⟨rfl, rfl⟩ ?_ ?_
    · rintro l ⟨a, j⟩ c hl ⟨rfl, e1⟩
      simp only at e1
      subst e1
      left
      have x0 : ¬ nI 14 ≤ nI (m + l) := fun z => absurd ((leT (by omega) (by omega)).mp z) (by omega)
      have x1 : ixB (nI (m + l)) 14 = true := ixT (by omega) (by omega)
      unfold fX0_passing_l104 fX10_exam_l156
      simp only [f4, r49, Option.bind_some, l16, l331, if_neg x0, if_neg (show ¬ (14 : Int32) ≤ nI (m + l) from x0), x1, if_true, clT (show m + l < 2147483648 by omega), h (m + l) (by omega), nI_1]
      exact ⟨_, _, rfl, rfl, rfl, rfl⟩
    · rintro ⟨a, j⟩ c ⟨rfl, e1⟩
      simp only at e1
      subst e1
      rw [show m + (14 - m) = 14 by omega]
      unfold fX0_passing_l104 fX10_exam_l156
      simp only [f4, Option.bind_some, l16, if_pos (Int32.le_refl _), if_pos (show (14 : Int32) ≤ nI 14 from Int32.le_refl _)]
      exact ⟨_, _, rfl, rfl, rfl⟩
  obtain ⟨b, d, k1, k2, rfl⟩ := key
  exact ⟨b, k1, k2⟩
theorem Q_exam (h : CM np nr W H ru pg rd nl F lw D w S jl acts pw σ) (x y z : Int32) : WQ np nr W H ru pg rd nl F lw σ (fX9_exam 0 x y z σ) (fX10_exam 310 x y z) := by
  refine WQ.two (m' := fun s => (fX10_isIn (Int32.toInt64 x) 1 12 s).bind fun vk1 => if vk1 = 0 then some ((-1), s) else (fX10_isIn (Int32.toInt64 y) 0 13 s).bind fun vk3 => if vk3 = 0 then some ((-1), s) else (fX10_isIn (Int32.toInt64 z) 0 100 s).bind fun vk5 => if vk5 = 0 then some ((-1), s) else (fX10_exam_w46 310 x y z 0 s).bind (fun o11 => (fun so11 => (fX10_exam_w81 310 x y z 0 so11).bind (fun o21 => (fun so21 => (fX10_exam_w156 310 0 y so21).bind (fun o25 => (fun xo25_4 => some ((Int64.toInt32 xo25_4), so21)) o25)) o21)) o11)) h (fun s => rfl) (fun τ hM => ?_)
  obtain ⟨f0, f1, f2, f3, f4⟩ := fin0 h.rf
  have r49 : gR τ 310 49 = some 331 := hM.1.hm.1.2.2.2.2.2.2.2.2.2.2.2.2.2.2.2.2.2.2.2.2.2.2.1
  have non : ∃ v σ' τ', some ((-1 : Int32), σ) = some (v, σ') ∧ some ((-1 : Int32), τ) = some (v, τ') ∧ Sm sCq σ σ' ∧ Sm sMq τ τ' ∧ ME τ' np nr W H ru pg rd nl F lw := ⟨_, _, _, rfl, rfl, Sm.rf, Sm.rf, hM.1⟩
  unfold fX9_exam fX9_exam_b25 fX9_exam_b26
  simp only [if_true, if_neg z1]
  by_cases hx : ∃ k, 1 ≤ k ∧ k ≤ 12 ∧ x = nI k
  · have hx2 := bd_in hx (by omega) (by omega)
    rw [show fX10_isIn (Int32.toInt64 x) 1 12 τ = some 1 from isInT (a := 1) (b := 12) (τ := τ) hx (by omega)]
    rw [rng_t (lo := 1) (hi := 12) hx2.1 hx2.2]
    simp only [Option.bind_some, if_neg z1]
    by_cases hy : ∃ k, 0 ≤ k ∧ k ≤ 13 ∧ y = nI k
    · have hy2 := bd_in hy (by omega) (by omega)
      rw [show fX10_isIn (Int32.toInt64 y) 0 13 τ = some 1 from isInT (a := 0) (b := 13) (τ := τ) hy (by omega)]
      rw [rng_t (lo := 0) (hi := 13) hy2.1 hy2.2]
      simp only [Option.bind_some, if_neg z1]
      by_cases hz : ∃ k, 0 ≤ k ∧ k ≤ 100 ∧ z = nI k
      · have hz2 := bd_in hz (by omega) (by omega)
        rw [show fX10_isIn (Int32.toInt64 z) 0 100 τ = some 1 from isInT (a := 0) (b := 100) (τ := τ) hz (by omega)]
        rw [if_neg (show ¬ z < 0 from hz2.1), if_pos (show z ≤ 100 from Int32.not_lt.mp hz2.2)]
        obtain ⟨n, hn1, hn2, rfl⟩ := hx
        obtain ⟨m, -, hm2, rfl⟩ := hy
        obtain ⟨s1, a1, a2, a3⟩ := ex_fill f4
        obtain ⟨t1, b1, b2, b3⟩ := ex_ini r49 (nI n) (nI m) z
        have f4' : gR s1 13 5 = some 16 := by rw [a2.2.2 _ _ (by omega)]; exact f4
        obtain ⟨s2, t2, c1, c2, c3, c4, c5⟩ := ex_main (s0 := sL s1 16 0 1000000000) (t0 := t1) hn2 f4' (by rw [b2.2.2 _ _ (by omega)]; exact r49) (fun k hk => by
          rw [gL_sL, b3 k hk]
          by_cases q : k = 0
          · rw [if_pos ⟨rfl, q⟩, if_pos q]
          · rw [if_neg (fun z => q z.2), if_neg q, a3 k hk]) (nI m) z (nI m)
        have c3' : Sm (fun c (_ : Nat) => c == 16) σ s2 := (a2.sL rfl).tr c3
        have c4' : Sm (fun c (_ : Nat) => c == 331) τ t2 := b2.tr c4
        obtain ⟨b, d1, d2⟩ := ex_sum hm2 (by rw [c3'.2.2 _ _ (by omega)]; exact f4) (by rw [c4'.2.2 _ _ (by omega)]; exact r49) c5
        have emax : maxI 0 (nI m) = nI m := by
          rw [show (0 : Int32) = nI 0 from rfl, maxN _ _ (by omega) (by omega)]; exact congrArg nI (by omega)
        unfold fX0_passing
        simp only [Option.bind_some, if_neg z1, h.rf.fin, f4, a1, f4', ln16.1, show ixB 0 14 = true by decide, if_true, show Int32.toNatClampNeg 0 = 0 by decide, b1, c1, c2, emax, d1, d2, bnd2_some]
        refine ⟨_, _, _, rfl, rfl, sCq_lo c3' (fun c k hc => by simp only [beq_eq_false_iff_ne, ne_eq]; omega), ?_, hM.1.sm c4' (fun c k hc => by unfold coreM coreH at hc; simp only [Bool.or_eq_true, Bool.and_eq_true, beq_iff_eq] at hc; simp only [beq_eq_false_iff_ne, ne_eq]; omega)⟩
        exact c4'.mono (fun c k hc => by unfold sMq at hc; simp only [Bool.or_eq_false_iff] at hc; exact hc.1.2)
      · have hz2 := bd_out hz (by omega) (by omega)
        rw [show fX10_isIn (Int32.toInt64 z) 0 100 τ = some 0 from isInF (a := 0) (b := 100) (τ := τ) hz (by omega) (by omega)]
        by_cases q : z < 0
        · rw [if_pos q]; exact non
        · rw [if_neg q, if_neg (show ¬ z ≤ 100 from Int32.not_le.mpr (hz2.resolve_left q))]; exact non
    · rw [show fX10_isIn (Int32.toInt64 y) 0 13 τ = some 0 from isInF (a := 0) (b := 13) (τ := τ) hy (by omega) (by omega), rng_f (lo := 0) (hi := 13) (bd_out (a := 0) (b := 13) hy (by omega) (by omega))]
      exact non
  · rw [show fX10_isIn (Int32.toInt64 x) 1 12 τ = some 0 from isInF (a := 1) (b := 12) (τ := τ) hx (by omega) (by omega), rng_f (lo := 1) (hi := 12) (bd_out (a := 1) (b := 12) hx (by omega) (by omega))]
    exact non
end Exam
/-! orders -/
section Ord
variable {σ τ : Mm} {D np nr W H S acts nl : Nat} {ru pg rd w v : Nat → Int32} {F : Nat → LF} {lw : Option LF} {jl pw : Nat → Nat → Int32}
theorem one_mk {p n : Nat} (hp : p < n) (hn : n ≤ 12) : shlI 1 (nI p) = mk (fun q => decide (q = p)) n := by
  apply i32_ext
  intro i hi
  rw [mkbit _ _ (by omega), twoP p (by omega), BitVec.getLsbD_twoPow]
  by_cases z : i = p
  · subst z; simp [hp]; omega
  · simp [z]; intro _ y; exact z y.symm
theorem cnt_rm (P : Nat → Bool) (n p : Nat) (hp : p < n) (hP : P p = true) : cntB (fun q => P q && !decide (q = p)) n + 1 = cntB P n := by
  induction n with
  | zero => omega
  | succ n ih =>
    rw [cntB_s, cntB_s]
    by_cases q : p = n
    · subst q
      rw [if_pos hP, if_neg (by simp)]
      congr 1
      exact cntB_congr (fun k hk => by simp; intro _; omega)
    · have := ih (by omega)
      have e : (P n && !decide (n = p)) = P n := by simp; intro _; omega
      rw [e]
      split <;> omega
theorem cnt_pos (P : Nat → Bool) (n p : Nat) (hp : p < n) (hP : P p = true) : 0 < cntB P n := by
  have := cnt_rm P n p hp hP; omega
/-- the best way so far -/
def Bst (σ τ : Mm) : Prop := gI σ 13 7 = gI τ 310 44 ∧ (gI σ 13 7 = -1 ∨ gI σ 13 6 = gI τ 310 45)
theorem Bst.of {s t s' t' : Mm} (h : Bst s t) (e1 : gI s' 13 7 = gI s 13 7) (e2 : gI s' 13 6 = gI s 13 6) (e3 : gI t' 310 44 = gI t 310 44) (e4 : gI t' 310 45 = gI t 310 45) : Bst s' t' := by
  unfold Bst
  rw [e1, e2, e3, e4]
  exact h
def sOd (d c k : Nat) : Bool := scr c k || c == 13 || (decide (22 + 5 * d ≤ c) && decide (c ≤ 46))
def sOm (d c k : Nat) : Bool := sK c k || c == 324 || c == 328 || (c == 325 && decide (351 * d ≤ k)) || (c == 310 && (decide (44 ≤ k) && decide (k ≤ 47)))
theorem sOd_cq {d : Nat} {a b : Mm} (h : Sm (sOd d) a b) : Sm sCq a b := h.mono (fun c k hc => by
  unfold sCq at hc; unfold sOd
  simp only [Bool.or_eq_false_iff, Bool.and_eq_false_imp, beq_eq_false_iff_ne, decide_eq_true_eq, decide_eq_false_iff_not, ne_eq] at hc ⊢
  exact ⟨⟨hc.1.1, by omega⟩, by omega⟩)
theorem sOm_mq {d : Nat} {a b : Mm} (h : Sm (sOm d) a b) : Sm sMq a b := h.mono (fun c k hc => by
  unfold sMq at hc; unfold sOm
  simp only [Bool.or_eq_false_iff, Bool.and_eq_false_imp, beq_iff_eq, beq_eq_false_iff_ne, decide_eq_true_eq, decide_eq_false_iff_not, ne_eq] at hc ⊢
  refine ⟨⟨⟨⟨hc.1.1.1.1.1.1, hc.1.1.1.1.1.2⟩, hc.1.1.1.2⟩, fun z => absurd z hc.1.1.1.1.2⟩, hc.2⟩)
theorem sOd_S {d : Nat} {a b : Mm} (h : Sm (sX (22 + 5 * d)) a b) (hd : d ≤ 4) : Sm (sOd d) a b := h.mono (fun c k hc => by
  unfold sOd at hc; unfold sX sS
  simp only [Bool.or_eq_false_iff, Bool.and_eq_false_imp, beq_eq_false_iff_ne, decide_eq_true_eq, decide_eq_false_iff_not, ne_eq] at hc ⊢
  exact ⟨by omega, hc.1.1⟩)
theorem sX_of {b : Nat} {x y : Mm} (h : Sm (sS b) x y) : Sm (sX b) x y := h.mono (fun c k hc => sX_S hc)
theorem sOm_M {d : Nat} {a b : Mm} (h : Sm (sM 324) a b) : Sm (sOm d) a b := h.mono (fun c k hc => by
  unfold sOm at hc; unfold sM
  simp only [Bool.or_eq_false_iff] at hc
  exact hc.1.1.1.2)
theorem sOm_Q {d : Nat} {a b : Mm} (h : Sm (sQ 324) a b) : Sm (sOm d) a b := h.mono (fun c k hc => by
  unfold sOm at hc; unfold sQ
  simp only [Bool.or_eq_false_iff] at hc ⊢
  exact ⟨⟨hc.1.1.1.1, hc.1.1.2⟩, hc.1.1.1.2⟩)
theorem sOm_up {d : Nat} {a b : Mm} (h : Sm (sOm (d + 1)) a b) : Sm (sOm d) a b := h.mono (fun c k hc => by
  unfold sOm at hc ⊢
  simp only [Bool.or_eq_false_iff, Bool.and_eq_false_imp, beq_iff_eq, decide_eq_false_iff_not] at hc ⊢
  exact ⟨⟨hc.1.1, fun z y => hc.1.2 z (by omega)⟩, hc.2⟩)
theorem sOd_up {d : Nat} {a b : Mm} (h : Sm (sOd (d + 1)) a b) : Sm (sOd d) a b := h.mono (fun c k hc => by
  unfold sOd at hc ⊢
  simp only [Bool.or_eq_false_iff, Bool.and_eq_false_imp, decide_eq_true_eq, decide_eq_false_iff_not] at hc ⊢
  exact ⟨hc.1, by omega⟩)
theorem ME.row {a b : Mm} {T : Nat → Nat → Bool} (h : ME a np nr W H ru pg rd nl F lw) (s : Sm T a b) (hT : ∀ c k, T c k = true → c = 324 ∨ c = 325 ∨ (c = 310 ∧ 44 ≤ k ∧ k ≤ 47) ∨ c = 330) : ME b np nr W H ru pg rd nl F lw :=
  h.sm s (fun c k hc => by
    unfold coreM coreH at hc
    simp only [Bool.or_eq_true, Bool.and_eq_true, beq_iff_eq] at hc
    by_cases q : T c k = true
    · have := hT c k q; omega
    · simpa using q)
theorem mw_sI44 {t : Mm} {x : Int32} (h : MW t 324 v) : MW (sI t 310 44 x) 324 v := fun k hk => by rw [gI_sI, if_neg (by omega)]; exact h k hk
theorem mlg_sI44 {t : Mm} {x : Int32} {cnt : Nat} {e : Nat → Nat → Int32} (h : MLg t 324 cnt e) : MLg (sI t 310 44 x) 324 cnt e := ⟨h.1, by rw [gI_sI, if_neg (by omega)]; exact h.2.1, fun i j hi hj => by rw [gI_sI, if_neg (by omega)]; exact h.2.2 i j hi hj⟩
theorem snow_d {d : Nat} (hd : d ≤ 5) : isSnow (17 + 5 * d) := by unfold isSnow; omega
theorem SB_d {d : Nat} (hd : d ≤ 5) : SB (17 + 5 * d) := by unfold SB; omega
theorem X_ord {r : Nat} (g : HB np nr W H ru pg rd) (hr : r < nr) : ∀ (k d n : Nat) (P : Nat → Bool) (row lost : Int32) (σ τ : Mm) (u v : Nat → Int32) (E : Nat), n = cntB P np → d + n ≤ 5 → n < k → CC σ np nr W H ru pg rd lw w S jl acts pw → MM τ np nr W H ru pg rd nl F lw w S jl acts pw → SC σ (17 + 5 * d) v → MW τ 324 u → (∃ cnt e, MLg τ 324 cnt e) → (d = 0 ∧ v = u ∨ 0 < d ∧ v = sNight ru np u) → WU E u → WZ np nr u → E + n + 2 < 2147483648 → Bst σ τ → ∃ σ' τ', gX0 k 13 (nI d) (nI r) (mk P np) row lost σ = some σ' ∧ gX10o k 310 (nI r) (mk P np) (nI d) row lost τ = some τ' ∧ Sm (sOd d) σ σ' ∧ Sm (sOm d) τ τ' ∧ MM τ' np nr W H ru pg rd nl F lw w S jl acts pw ∧ Bst σ' τ' := by
  have g1 := g.1
  have g2 := g.2.1
  intro k
  induction k with
  | zero => intros; omega
  | succ k ih =>
    intro d n P row lost σ τ u v E hn hd hk hC hM hS hu hlg hv hB hZ hE hb
    have hBv : WU (E + 1) v ∧ WZ np nr v := by
      rcases hv with ⟨-, rfl⟩ | ⟨-, rfl⟩
      · exact ⟨hB.mono (by omega), hZ⟩
      · exact ⟨hB.night g, hZ.night g1⟩
    obtain ⟨f0, f1, f2, f3, f4⟩ := fin0 hC.rf
    have core : ∃ σ' τ', fX0_tryRows_b18 (gX0 k) 13 (nI d) (nI r) (mk P np) row lost σ = some σ' ∧ fX10_goOrder_b18 (gX10o k) 310 (nI r) (mk P np) (nI d) row lost τ = some τ' ∧ Sm (sOd d) σ σ' ∧ Sm (sOm d) τ τ' ∧ MM τ' np nr W H ru pg rd nl F lw w S jl acts pw ∧ Bst σ' τ' := by
      unfold fX0_tryRows_b18 fX10_goOrder_b18
      by_cases q0 : mk P np = 0
      · rw [if_pos q0, if_pos q0]
        have s2 : Sm (fun c k => c == 310 && (k == 44 || k == 45)) τ (sI (sI τ 310 44 lost) 310 45 row) := (Sm.rf.sI rfl).sI rfl
        have s3 : Sm (sOm d) τ (sI (sI τ 310 44 lost) 310 45 row) := (Sm.rf.sI (by unfold sOm; simp)).sI (by unfold sOm; simp)
        refine ⟨_, _, rfl, rfl, (Sm.rf.sI (by unfold sOd; simp)).sI (by unfold sOd; simp), s3, hM.mq (sOm_mq s3) (hM.1.row s2 (fun c k hc => by simp only [Bool.and_eq_true, Bool.or_eq_true, beq_iff_eq] at hc; omega)), ?_, Or.inr ?_⟩
        · simp [gI_sI]
        · simp [gI_sI]
      · have hex : ∃ p, p < np ∧ P p = true := by
          refine Classical.byContradiction fun z => q0 ((mk_0 P (by omega)).mpr (fun p hp => ?_))
          by_cases y : P p = true
          · exact absurd ⟨p, hp, y⟩ z
          · simpa using y
        obtain ⟨p0, hp0, hP0⟩ := hex
        have hn1 := cnt_pos P np p0 hp0 hP0
        have hd4 : d ≤ 4 := by omega
        rw [if_neg q0, if_neg q0, if_neg (nI_pos (by omega)), f2, Option.bind_some, ln16.2.2.1, nI_1, if_pos ((ltT (by omega) (by omega)).mpr (by omega))]
        -- the model's night and what it keeps
        have pre : ∃ τ1 τ2, (if nI d ≤ 0 then fX10_goOrder_b47 (gX10o k) 310 (nI r) (mk P np) (nI d) row lost τ else (gR τ 310 34).bind fun r17 => (fX10_goNight 310 r17 τ).bind fun sk18 => fX10_goOrder_b47 (gX10o k) 310 (nI r) (mk P np) (nI d) row lost sk18) = fX10_goOrder_b47 (gX10o k) 310 (nI r) (mk P np) (nI d) row lost τ1 ∧ fX10_save 310 (nI d) 324 τ1 = some τ2 ∧ gR τ1 310 34 = some 324 ∧ Sm (sOm d) τ τ2 ∧ MM τ2 np nr W H ru pg rd nl F lw w S jl acts pw ∧ (∃ cnt e, RowAt τ2 325 (351 * d) v cnt e) ∧ gI τ2 310 44 = gI τ 310 44 ∧ gI τ2 310 45 = gI τ 310 45 := by
          have sv : ∀ τ1, Sm (sOm d) τ τ1 → MM τ1 np nr W H ru pg rd nl F lw w S jl acts pw → MW τ1 324 v → (∃ cnt e, MLg τ1 324 cnt e) → gI τ1 310 44 = gI τ 310 44 → gI τ1 310 45 = gI τ 310 45 → ∃ τ2, fX10_save 310 (nI d) 324 τ1 = some τ2 ∧ Sm (sOm d) τ τ2 ∧ MM τ2 np nr W H ru pg rd nl F lw w S jl acts pw ∧ (∃ cnt e, RowAt τ2 325 (351 * d) v cnt e) ∧ gI τ2 310 44 = gI τ 310 44 ∧ gI τ2 310 45 = gI τ 310 45 := by
            rintro τ1 h1 h2 h3 ⟨cnt, e, h4⟩ h5 h6
            have r35 : gR τ1 310 35 = some 325 := h2.1.hm.1.2.2.2.2.2.2.2.2.2.2.2.2.2.2.2.2.1
            obtain ⟨τ2, j1, j2, j3⟩ := m_save (q := d) (m := 324) r35 (by omega) ln324 (by omega)
            have s2 : Sm (sOm d) τ1 τ2 := j2.mono (fun c k hc => by
              unfold sOm at hc
              simp only [Bool.or_eq_false_iff, Bool.and_eq_false_imp, beq_iff_eq, decide_eq_true_eq, decide_eq_false_iff_not] at hc ⊢
              intro z y
              exact absurd y (hc.1.2 z))
            refine ⟨τ2, j1, h1.tr s2, h2.mq (sOm_mq s2) (h2.1.row j2 (fun c k hc => by simp only [Bool.and_eq_true, beq_iff_eq] at hc; omega)), ⟨cnt, e, (RowAt.of h3 h4).cp (fun k hk => by rw [j3 k hk, Nat.zero_add])⟩, ?_, ?_⟩
            · rw [j2.1 310 44 rfl]; exact h5
            · rw [j2.1 310 45 rfl]; exact h6
          rcases hv with ⟨rfl, rfl⟩ | ⟨hd0, rfl⟩
          · obtain ⟨τ2, j⟩ := sv τ Sm.rf hM hu hlg rfl rfl
            exact ⟨τ, τ2, by rw [if_pos (show nI 0 ≤ 0 from Int32.le_refl _)], j.1, hM.r34, j.2⟩
          · obtain ⟨cnt, e, hl⟩ := hlg
            obtain ⟨t, k1, k2, k3, k4⟩ := m_goNight g hM.1 (Or.inr rfl) hu hl hB hZ
            have hE1 := hM.1.row k2 (fun c k hc => by unfold sM at hc; simp only [beq_iff_eq] at hc; omega)
            have hM1 := hM.mq (sM_mq k2) hE1
            obtain ⟨τ2, j⟩ := sv t (sOm_M k2) hM1 k3 ⟨_, _, k4⟩ (k2.1 _ _ rfl) (k2.1 _ _ rfl)
            exact ⟨t, τ2, by rw [if_neg (nI_nle hd0 (by omega)), hM.r34, Option.bind_some, k1, Option.bind_some], j.1, hM1.r34, j.2⟩
        obtain ⟨τ1, τ2, p1, p2, p3, p4, p5, ⟨cnt, e, p6⟩, p7, p8⟩ := pre
        rw [p1]
        unfold fX10_goOrder_b47
        rw [p3, Option.bind_some, p2, Option.bind_some]
        have lp : ∃ b c, fX0_tryRows_w54 (gX0 k) 13 (nI d) (nI r) (mk P np) row lost 0 σ = some b ∧ fX10_goOrder_w59 (gX10o k) 310 (nI r) (mk P np) (nI d) row lost 0 τ2 = some c ∧ (Sm (sOd d) σ b ∧ Sm (sOm d) τ c ∧ MM c np nr W H ru pg rd nl F lw w S jl acts pw ∧ Bst b c) := by
          unfold fX0_tryRows_w54 fX10_goOrder_w59
          refine wh_two (fun i a c => a.1 = nI i ∧ c.1 = nI i ∧ Sm (sOd d) σ a.2 ∧ Sm (sOm d) τ c.2 ∧ MM c.2 np nr W H ru pg rd nl F lw w S jl acts pw ∧ Bst a.2 c.2 ∧ RowAt c.2 325 (351 * d) v cnt e) _ np BIG 0 _ _ (Nat.zero_le _) (by unfold BIG; omega) ⟨rfl, rfl, Sm.rf, p4, p5, hb.of rfl rfl p7 p8, p6⟩ ?_ ?_
          · rintro i ⟨j, s⟩ ⟨j', t⟩ hi ⟨e1, e2, e3, e4, e5, e6, e7⟩
            simp only at e1 e2 e3 e4 e5 e6 e7
            subst e1 e2
            left
            have hC' := hC.cq (sOd_cq e3)
            obtain ⟨f0, f1, f2, f3, f4⟩ := fin0 hC'.rf
            have hS' : SC s (17 + 5 * d) v := hS.sm e3 (fun j k hj => by
              unfold sOd
              simp only [Bool.or_eq_false_iff, Bool.and_eq_false_imp, beq_eq_false_iff_ne, decide_eq_true_eq, decide_eq_false_iff_not, ne_eq]
              exact ⟨⟨scr_no (by omega), by omega⟩, by omega⟩)
            have e8 : ¬ nI np ≤ nI i := fun z => absurd ((leT (by omega) (by omega)).mp z) (by omega)
            have r14 : ∀ j, j < 6 → ∀ x, Sm sCq σ x → gR x 14 j = some (17 + 5 * j) := fun j hj x hx => (hC.cq hx).rf.2.2.2.2.1.2.2.2.2.2.2 j hj
            have hbit := mk_at P (show np ≤ 12 by omega) hi
            unfold fX0_tryRows_l54 fX10_goOrder_l59 fX0_tryRows_b171 fX10_goOrder_b148 fX10_has
            simp only [f0, Option.bind_some, hC'.hc.2.2.2.2.2.2.1, if_neg e8, e5.1.hm.2.2.1, hbit, nI_1]
            by_cases q : P i = true
            · simp only [if_pos q, if_true, Option.bind_some, if_neg z1, f1, f2, ln16.2.2.1, ixT (show d < 6 by omega) (by omega), ixT (show d + 1 < 6 by omega) (by omega), clT (show d < 2147483648 by omega), clT (show d + 1 < 2147483648 by omega), r14 d (by omega) s (sOd_cq e3), r14 (d + 1) (by omega) s (sOd_cq e3), e5.r34]
              have r35 : gR t 310 35 = some 325 := e5.1.hm.1.2.2.2.2.2.2.2.2.2.2.2.2.2.2.2.2.1
              obtain ⟨t1, a1, a2, a3⟩ := m_load (q := d) (m := 324) r35 (by omega) ln324 (by omega)
              have hE1 := e5.1.row a2 (fun c k hc => by unfold sM at hc; simp only [beq_iff_eq] at hc; omega)
              have hM1 := e5.mq (sM_mq a2) hE1
              have rw1 := (e7.cp (σ' := t1) (c' := 324) (b' := 0) (fun k hk => by rw [Nat.zero_add]; exact a3 k hk)).mw
              have hbst : gI t1 310 44 = gI t 310 44 ∧ gI t1 310 45 = gI t 310 45 := ⟨a2.1 _ _ rfl, a2.1 _ _ rfl⟩
              have hrow : RowAt t1 325 (351 * d) v cnt e := e7.cp (fun k hk => a2.1 _ _ rfl)
              rw [a1]
              simp only [Option.bind_some, hM1.r34, m_canRead g hM1.1.hm ln324 rw1.1 hr hi, c_may_read g hC'.hc hC'.rf.wr (hC'.rf.sr (snow_d (d := d) (by omega))) hS' hr hi]
              by_cases q2 : sMayR ru pg rd v r i = 0
              · simp only [if_pos q2]
                exact ⟨_, _, rfl, rfl, rfl, rfl, e3, e4.tr (sOm_M a2), hM1, e6.of rfl rfl hbst.1 hbst.2, hrow⟩
              · simp only [if_neg q2]
                obtain ⟨s1, b1, b2, b3⟩ := c_takeFrom (d := 17 + 5 * (d + 1)) (s := 17 + 5 * d) (hC'.rf.sr (snow_d (by omega))) (hC'.rf.sr (snow_d (by omega))) hS' (by omega)
                have s2' : Sm (sOd d) s s1 := sOd_S (d := d) (by have := sX_of b2; rwa [show 17 + 5 * (d + 1) = 22 + 5 * d by omega] at this) hd4
                have hC1 := hC'.cq (sOd_cq s2')
                obtain ⟨s2, c1, c2, c3⟩ := c_read (b := 17 + 5 * (d + 1)) g hC1.hc hC1.rf.wr (hC1.rf.sr (snow_d (by omega))) b3 hC1.hl (SB_d (by omega)) hr hi
                have s3' : Sm (sOd d) s1 s2 := sOd_S (d := d) (by rwa [show 17 + 5 * (d + 1) = 22 + 5 * d by omega] at c2) hd4
                have hC2 := hC1.cq (sOd_cq s3')
                obtain ⟨s3, d1, d2, d3⟩ := c_fallNight (b := 17 + 5 * (d + 1)) g hC2.hc hC2.rf.wr (hC2.rf.sr (snow_d (by omega))) c3 (SB_d (by omega))
                have s4' : Sm (sOd d) s2 s3 := sOd_S (d := d) (by have := sX_of d2; rwa [show 17 + 5 * (d + 1) = 22 + 5 * d by omega] at this) hd4
                have hC3 := hC2.cq (sOd_cq s4')
                obtain ⟨f0', f1', f2', -⟩ := fin0 hC1.rf
                obtain ⟨f0'', f1'', f2'', -⟩ := fin0 hC2.rf
                obtain ⟨t2, m1, m2, m3, m4, m5⟩ := m_reads g hM1.1 (Or.inr rfl) rw1.1 rw1.2 hBv.1 (by omega) hr hi
                have hM2 := hM1.mq (sOm_mq (d := d) (sOm_Q m2)) m3
                have hbs2 : gI t2 310 44 = gI t 310 44 ∧ gI t2 310 45 = gI t 310 45 := ⟨by rw [m2.1 _ _ rfl]; exact hbst.1, by rw [m2.1 _ _ rfl]; exact hbst.2⟩
                have hbs3 : gI s3 13 7 = gI s 13 7 ∧ gI s3 13 6 = gI s 13 6 := by
                  have zz : ∀ k, sX (17 + 5 * (d + 1)) 13 k = false := fun k => by
                    unfold sX sS
                    simp only [Bool.or_eq_false_iff, Bool.and_eq_false_imp, decide_eq_true_eq, decide_eq_false_iff_not]
                    exact ⟨by omega, scr_no (by omega)⟩
                  have w1 := (((sX_of b2).tr c2).tr (sX_of d2))
                  exact ⟨w1.1 _ _ (zz _), w1.1 _ _ (zz _)⟩
                have hP' : mk P np &&& (shlI 1 (nI i) ^^^ -1) = mk (fun q => P q && !decide (q = i)) np := by
                  rw [one_mk hi (by omega), mk_andn _ _ (by omega)]
                have hcn := cnt_rm P np i hi q
                obtain ⟨s5, t5, o1, o2, o3, o4, o5, o6⟩ := ih (d + 1) (n - 1) (fun q => P q && !decide (q = i)) (row * 12 + nI i) (lost + sReadL lw np nr ru pg rd v r i) s3 t2 (sRead lw np nr ru pg rd v r i) (sNight ru np (sRead lw np nr ru pg rd v r i)) (E + 1) (by omega) (by omega) (by omega) hC3 hM2 d3 m4 ⟨_, _, m5⟩ (Or.inr ⟨by omega, rfl⟩) (hBv.1.read g hr hi) (hBv.2.read g hr hi) (by omega) (e6.of hbs3.1 hbs3.2 hbs2.1 hbs2.2)
                rw [b1]
                simp only [Option.bind_some, f1', c1, bnd2_some, f1'', d1, hP', o1, m1, o2]
                refine ⟨_, _, rfl, rfl, rfl, rfl, (((e3.tr s2').tr s3').tr s4').tr (sOd_up o3), ((e4.tr (sOm_M a2)).tr (sOm_Q m2)).tr (sOm_up o4), o5, o6, ?_⟩
                refine hrow.cp (fun k hk => ?_)
                rw [o4.1 _ _ (by
                  unfold sOm
                  simp only [Bool.or_eq_false_iff, Bool.and_eq_false_imp, beq_iff_eq, decide_eq_false_iff_not]
                  exact ⟨⟨⟨⟨rfl, rfl⟩, rfl⟩, fun _ => by omega⟩, fun z => absurd z (by omega)⟩), m2.1 _ _ rfl]
            · simp only [if_neg q, if_neg (show ¬ (0 : Int32) = 1 by decide), Option.bind_some, if_true]
              exact ⟨_, _, rfl, rfl, rfl, rfl, e3, e4, e5, e6, e7⟩
          · rintro ⟨j, s⟩ ⟨j', t⟩ ⟨e1, e2, e3, e4, e5, e6, e7⟩
            simp only at e1 e2 e3 e4 e5 e6 e7
            subst e1 e2
            have hC' := hC.cq (sOd_cq e3)
            obtain ⟨f0, -⟩ := fin0 hC'.rf
            unfold fX0_tryRows_l54 fX10_goOrder_l59
            simp only [f0, Option.bind_some, hC'.hc.2.2.2.2.2.2.1, e5.1.hm.2.2.1, if_pos (Int32.le_refl _)]
            exact ⟨_, _, rfl, rfl, e3, e4, e5, e6⟩
        obtain ⟨b, c, l1, l2, l3⟩ := lp
        rw [l1, l2]
        exact ⟨b, c, rfl, rfl, l3⟩
    unfold gX0 gX10o fX0_tryRows fX10_goOrder
    rw [hb.1]
    by_cases q : gI τ 310 44 = -1
    · rw [if_pos q, if_pos q]; exact core
    · rw [if_neg q, if_neg q]
      by_cases q2 : lost < gI τ 310 44
      · rw [if_pos q2, if_pos q2]; exact core
      · rw [if_neg q2, if_neg q2]
        exact ⟨_, _, rfl, rfl, Sm.rf, Sm.rf, hM, hb⟩
theorem Q_order (h : CM np nr W H ru pg rd nl F lw D w S jl acts pw σ) (hD : D < 2147483000) (x y z : Int32) : WQ np nr W H ru pg rd nl F lw σ (fX9_order 0 x y z σ) (fX10_order 310 x y z) := by
  have g := h.g
  have g1 := g.1
  have g2 := g.2.1
  refine WQ.two (m' := fun s => (fX10_isReader 310 x s).bind fun vk1 => if vk1 = 0 then some ((-1000000), s) else (fX10_isIn (Int32.toInt64 y) 0 4 s).bind fun vk3 => if vk3 = 0 then some ((-1000000), s) else (fX10_isIn (Int32.toInt64 z) 0 1 s).bind fun vk5 => if vk5 = 0 then some ((-1000000), s) else (fX10_order_w45 310 x y z 0 0 s).bind (fun o13 => (fun xo13_4 => if xo13_4 = 0 then some ((-1000000), s) else (fJ6_bitCount_0f7a4 xo13_4 s).bind fun vk15 => if vk15 ≤ 5 then (gR s 310 33).bind fun r17 => (gR s 310 34).bind fun r18 => (fX10_copy r17 r18 s).bind fun sk19 => (gR sk19 310 34).bind fun r20 => (fX10_canDo 310 r20 x sk19).bind fun vk21 => if vk21 = 0 then (fX10_goNight 310 r20 sk19).bind fun sk26 => fX10_order_b144 310 x z xo13_4 sk26 else fX10_order_b144 310 x z xo13_4 sk19 else some ((-1000000), s)) o13)) h (fun s => rfl) (fun τ hM => ?_)
  have non : ∃ v σ' τ', some ((-1000000 : Int32), σ) = some (v, σ') ∧ some ((-1000000 : Int32), τ) = some (v, τ') ∧ Sm sCq σ σ' ∧ Sm sMq τ τ' ∧ ME τ' np nr W H ru pg rd nl F lw := ⟨_, _, _, rfl, rfl, Sm.rf, Sm.rf, hM.1⟩
  have hC := h.1
  obtain ⟨f0, f1, f2, f3, f4⟩ := fin0 h.rf
  unfold fX9_order fX9_order_b27
  rw [h.rf.hall, Option.bind_some]
  by_cases hx : ∃ p, p < nr ∧ x = nI p
  · obtain ⟨r, hr, rfl⟩ := hx
    have hnp := np_of g hr
    simp only [c_hasReader g h.hc hr, m_isReader g hM.1.hm hr, Option.bind_some, if_neg z1]
    rcases in4 (x := y) (n := 4) with hy | hy
    · rw [isBook_t hy, show fX10_isIn (Int32.toInt64 y) 0 4 τ = some 1 from isInT (a := 0) (b := 4) hy (by omega)]
      simp only [Option.bind_some, if_neg z1]
      rcases in4 (x := z) (n := 1) with hz | hz
      · rw [c01_t hz, show fX10_isIn (Int32.toInt64 z) 0 1 τ = some 1 from isInT (a := 0) (b := 1) hz (by omega)]
        simp only [Option.bind_some, if_neg z1, h.rf.fin, h.rf.now]
        let P : Nat → Bool := fun p => decide (¬ w (2 * p) ≤ 0) && bkB pg y p
        have e45 : fX10_order_w45 310 (nI r) y z 0 0 τ = some (mk P np) := by
          unfold fX10_order_w45
          refine wh_run (fun i => (mk P i, nI i)) np rfl (BIG_lt (by omega)) (fun i hi => ?_) ?_
          · unfold fX10_order_l45 fX10_order_b85 fX10_order_b86
            have e6 : ¬ nI np ≤ nI i := fun z => absurd ((leT (by omega) (by omega)).mp z) (by omega)
            rw [mk_succ]
            simp only [hM.1.hm.2.2.1, if_neg e6, m_isOf g hM.1.hm hi, Option.bind_some, hM.r33, i2p, ln323, ixT (show 2 * i < 351 by omega) (by omega), if_true, clT (show 2 * i < 2147483648 by omega), hM.2.1 (2 * i) (by omega), nI_1, Int32.or_zero]
            by_cases q : pg (4 * i + 2) = y
            · simp only [if_pos q, if_neg z1]
              by_cases q2 : w (2 * i) ≤ 0
              · rw [if_pos q2, if_neg (by simp only [P, Bool.and_eq_true, decide_eq_true_eq]; exact fun y => y.1 q2)]
              · rw [if_neg q2, if_pos (by simp only [P, bkB, Bool.and_eq_true, decide_eq_true_eq]; exact ⟨q2, q⟩)]
            · simp only [if_neg q, if_true]
              rw [if_neg (by simp [P, bkB, q])]
          · unfold fX10_order_l45
            simp only [hM.1.hm.2.2.1, if_pos (Int32.le_refl _)]
        have ec : mk (fun p => decide (¬ w (2 * p) ≤ 0)) np &&& mk (bkB pg y) np = mk P np := mk_and _ _ (by omega)
        have hcle := cntB_le P np
        unfold fX0_findOrder fX0_findOrder_b77
        simp only [f1, Option.bind_some, c_pagesThere g h.hc h.rf.wr h.rf.sr89 h.sc, f0, c_pagesOf g h.hc, ec, e45, bc_mk P (show np ≤ 12 by omega)]
        by_cases q0 : mk P np = 0
        · simp only [if_pos q0, bnd2_some, if_true]; exact non
        · simp only [if_neg q0]
          by_cases q5 : nI (cntB P np) ≤ 5
          · have hc5 : cntB P np ≤ 5 := (leT (b := 5) (by omega) (by omega)).mp q5
            have r14 : ∀ j, j < 6 → ∀ x, Sm sCq σ x → gR x 14 j = some (17 + 5 * j) := fun j hj x hx => (hC.cq hx).rf.2.2.2.2.1.2.2.2.2.2.2 j hj
            have z14 := r14 0 (by omega) σ Sm.rf
            simp only [if_pos q5, f2, Option.bind_some, ln16.2.2.1, show ixB 0 6 = true by decide, if_true, show Int32.toNatClampNeg 0 = 0 by decide, z14]
            have s0 : Sm sCq σ (sI (sI σ 13 7 (-1)) 13 6 (-1)) := (Sm.rf.sI rfl).sI rfl
            have hC0 := hC.cq s0
            obtain ⟨s1, a1, a2, a3⟩ := c_takeFrom (d := 17) (s := 89) (hC0.rf.sr (snow_d (d := 0) (by omega))) hC0.rf.sr89 hC0.sc (by omega)
            have a2q : Sm sCq (sI (sI σ 13 7 (-1)) 13 6 (-1)) s1 := sCq_lo a2 (fun c k hc => by unfold sS; simp only [Bool.and_eq_false_imp, decide_eq_true_eq, decide_eq_false_iff_not]; omega)
            have hC1 := hC0.cq a2q
            obtain ⟨t1, l1, l2, l3, l4, l5⟩ := M_trial hM
            have hb6 : gI s1 13 7 = -1 ∧ gI s1 13 6 = -1 := ⟨by rw [a2.1 _ _ rfl]; simp [gI_sI], by rw [a2.1 _ _ rfl]; simp [gI_sI]⟩
            simp only [Nat.mul_zero, Nat.add_zero, a1, Option.bind_some, hM.r33, hM.r34, l1, l3.r34, m_canDo g l3.1.hm ln324 l4 hr, c_hasDone hC1.sc (show r < 6 by omega)]
            obtain ⟨f0', f1', f2', -⟩ := fin0 hC1.rf
            have fin : ∀ s t v E, Sm sCq σ s → CC s np nr W H ru pg rd lw w S jl acts pw → Sm sMq τ t → MM t np nr W H ru pg rd nl F lw w S jl acts pw → SC s 17 v → MW t 324 v → (∃ cnt e, MLg t 324 cnt e) → WU E v → WZ np nr v → E + 8 < 2147483648 → gI s 13 7 = -1 → ∃ vv σ' τ', (bnd2 ((gX0 100 13 0 (nI r) (mk P np) 0 0 s).bind fun sk14 => if gI sk14 13 7 = -1 then some ((0 : Int32), sk14) else some (1, sk14)) fun vk10 sk10 => if vk10 = 0 then some ((-1000000), sk10) else if z = 0 then (gR sk10 0 4).bind fun r14 => some ((gI sk10 r14 6), sk10) else (gR sk10 0 4).bind fun r13 => some ((gI sk10 r13 7), sk10)) = some (vv, σ') ∧ fX10_order_b144 310 (nI r) z (mk P np) t = some (vv, τ') ∧ Sm sCq σ σ' ∧ Sm sMq τ τ' ∧ ME τ' np nr W H ru pg rd nl F lw := by
              rintro s t v E hs hCs ht hMt hv hw hl hB hZ hE hb
              have s44 : Sm (fun c k => c == 310 && k == 44) t (sI t 310 44 (-1)) := Sm.rf.sI rfl
              have m44 : Sm sMq t (sI t 310 44 (-1)) := Sm.rf.sI rfl
              have hMt' := hMt.mq m44 (hMt.1.row s44 (fun c k hc => by simp only [Bool.and_eq_true, beq_iff_eq] at hc; omega))
              obtain ⟨cnt, e, hl⟩ := hl
              have hv0 : SC s (17 + 5 * 0) v := hv
              have hbs : Bst s (sI t 310 44 (-1)) := ⟨by rw [hb]; simp [gI_sI], Or.inl hb⟩
              obtain ⟨s', t', o1, o2, o3, o4, o5, o6, o7⟩ := X_ord g hr 100 0 (cntB P np) P 0 0 s (sI t 310 44 (-1)) v v E rfl (by omega) (by omega) hCs hMt' hv0 (mw_sI44 hw) ⟨cnt, e, mlg_sI44 hl⟩ (Or.inl ⟨rfl, rfl⟩) hB hZ (by omega) hbs
              have o1' : gX0 100 13 0 (nI r) (mk P np) 0 0 s = some s' := o1
              have o2' : gX10o 100 310 (nI r) (mk P np) 0 0 0 (sI t 310 44 (-1)) = some t' := o2
              have hs' := hs.tr (sOd_cq o3)
              have ht' := (ht.tr m44).tr (sOm_mq o4)
              unfold fX10_order_b144
              simp only [o1', o2', Option.bind_some, o6]
              by_cases q : gI t' 310 44 = -1
              · simp only [if_pos q, bnd2_some, if_true]
                exact ⟨_, _, _, rfl, rfl, hs', ht', o5.1⟩
              · simp only [if_neg q, bnd2_some, if_neg z1, (hC.cq hs').rf.fin, Option.bind_some]
                by_cases q2 : z = 0
                · simp only [if_pos q2]
                  refine ⟨_, _, _, rfl, ?_, hs', ht', o5.1⟩
                  rw [o7.resolve_left (by rw [o6]; exact q)]
                · simp only [if_neg q2, o6]
                  exact ⟨_, _, _, rfl, rfl, hs', ht', o5.1⟩
            have hss := s0.tr a2q
            by_cases qd : w (25 + 14 * r) = 0
            · simp only [if_pos qd, if_neg z1]
              exact fin s1 t1 w D hss hC1 l2 l3 a3 l4 ⟨_, _, l5⟩ h.wu h.wz (by omega) hb6.1
            · obtain ⟨s2, d1, d2, d3⟩ := c_fallNight (b := 17) g hC1.hc hC1.rf.wr (hC1.rf.sr (snow_d (d := 0) (by omega))) a3 (SB_d (d := 0) (by omega))
              have d2q : Sm sCq s1 s2 := sCq_lo d2 (fun c k hc => by unfold sS; simp only [Bool.and_eq_false_imp, decide_eq_true_eq, decide_eq_false_iff_not]; omega)
              obtain ⟨t2, m1, m2, m3, m4, m5⟩ := M_fall l3 g l4 l5 h.wu h.wz
              have r14' := r14 0 (by omega) s1 hss
              simp only [Nat.mul_zero, Nat.add_zero] at r14'
              simp only [if_neg qd, if_true, f1', f2', Option.bind_some, ln16.2.2.1, show ixB 0 6 = true by decide, show Int32.toNatClampNeg 0 = 0 by decide, r14', d1, bnd2_some, m1]
              exact fin s2 t2 (sNight ru np w) (D + 1) (hss.tr d2q) (hC1.cq d2q) (l2.tr m2) m3 d3 m4 m5 (h.wu.night g) (h.wz.night g1) (by omega) (by rw [d2.1 _ _ rfl]; exact hb6.1)
          · simp only [if_neg q5, bnd2_some, if_true]; exact non
      · rw [c01_f hz, show fX10_isIn (Int32.toInt64 z) 0 1 τ = some 0 from isInF (a := 0) (b := 1) hz (by omega) (by omega)]
        exact non
    · rw [isBook_f hy, show fX10_isIn (Int32.toInt64 y) 0 4 τ = some 0 from isInF (a := 0) (b := 4) hy (by omega) (by omega)]
      exact non
  · simp only [c_hasReader_out g h.hc hx, m_isReader_out g hM.1.hm hx, Option.bind_some, if_true]
    exact non
end Ord
