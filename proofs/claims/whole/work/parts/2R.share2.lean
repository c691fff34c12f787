/-! sharing, on both sides -/
section Share
variable {σ τ : Mm} {D np nr W H S acts nl : Nat} {ru pg rd w v : Nat → Int32} {F : Nat → LF} {lw : Option LF} {jl pw : Nat → Nat → Int32}
theorem sLoss_ok {mel : Nat → Int32} (hB : WU D w) (hm : ∀ p, ∃ k, k ≤ 9 ∧ mel p = nI k) (n : Nat) (hn : n ≤ 12) : ∃ k, k ≤ 9 * n ∧ sLoss mel w n = nI k := by
  induction n with
  | zero => exact ⟨0, Nat.le_refl _, rfl⟩
  | succ n ih =>
    obtain ⟨k, hk, e⟩ := ih (by omega)
    unfold sLoss at e ⊢
    rw [fo_succ, e]
    by_cases q : w (2 * n) ≤ 0
    · rw [if_pos q]; exact ⟨k, by omega, rfl⟩
    · rw [if_neg q]
      obtain ⟨a, ha, ea⟩ := hB (2 * n) (by omega)
      rw [ub_dp (by omega)] at ha
      obtain ⟨b, hb, eb⟩ := hm n
      rw [ea, eb, minN _ _ (by omega) (by omega), nI_add]
      exact ⟨_, by omega, rfl⟩
/-- what a reader loses by a page -/
def shL (lw : Option LF) (np nr : Nat) (ru pg rd w : Nat → Int32) (r p : Nat) : Nat := if r < nr ∧ p < np then Int32.toNatClampNeg (sLoss (sMel lw nr ru pg rd w r (pg (4 * p))) w np) else 0
theorem shL_ok (g : HB np nr W H ru pg rd) (hB : WU D w) (r p : Nat) : shL lw np nr ru pg rd w r p ≤ 108 := by
  unfold shL
  split
  · obtain ⟨k, hk, e⟩ := sLoss_ok (mel := sMel lw nr ru pg rd w r (pg (4 * p))) hB (fun q => sMelt_ok _ _ _ _ _ _ _ _ _) np g.1
    have := g.1
    rw [e, clT (by omega)]
    omega
  · omega
theorem shL_eq (g : HB np nr W H ru pg rd) (hB : WU D w) {r p : Nat} (hr : r < nr) (hp : p < np) : sLoss (sMel lw nr ru pg rd w r (pg (4 * p))) w np = nI (shL lw np nr ru pg rd w r p) := by
  obtain ⟨k, hk, e⟩ := sLoss_ok (mel := sMel lw nr ru pg rd w r (pg (4 * p))) hB (fun q => sMelt_ok _ _ _ _ _ _ _ _ _) np g.1
  have := g.1
  unfold shL
  rw [if_pos ⟨hr, hp⟩, e, clT (by omega)]
def shX (ru pg rd w : Nat → Int32) (p r : Nat) : Bool := decide (¬ sNear ru rd w r (pg (4 * p)) = 0)
def shP (pg w : Nat → Int32) (x : Int32) : Nat → Bool := fun p => decide (¬ w (2 * p) ≤ 0) && bkB pg x p
def shF (ru pg rd w : Nat → Int32) (x : Int32) (r p : Nat) : Bool := shP pg w x p && shX ru pg rd w p r
theorem shP_iff {x : Int32} {p : Nat} : shP pg w x p = true ↔ ¬ w (2 * p) ≤ 0 ∧ pg (4 * p + 2) = x := by unfold shP bkB; rw [Bool.and_eq_true, decide_eq_true_eq, decide_eq_true_eq]
theorem shX_iff {p r : Nat} : shX ru pg rd w p r = true ↔ ¬ sNear ru rd w r (pg (4 * p)) = 0 := by unfold shX; rw [decide_eq_true_eq]
theorem shF_iff {x : Int32} {r p : Nat} : shF ru pg rd w x r p = true ↔ (¬ w (2 * p) ≤ 0 ∧ pg (4 * p + 2) = x) ∧ ¬ sNear ru rd w r (pg (4 * p)) = 0 := by unfold shF; rw [Bool.and_eq_true, shP_iff, shX_iff]
def AR (σ : Mm) (A : Nat → Nat) : Prop := ∀ s, s < 64 → gI σ 15 s = nI (A s)
theorem AR.sm {T : Nat → Nat → Bool} {σ' : Mm} {A : Nat → Nat} (h : AR σ A) (s : Sm T σ σ') (hs : ∀ k, T 15 k = false) : AR σ' A := fun k hk => by rw [s.1 _ _ (hs k)]; exact h k hk
theorem wo_tab : ∀ s, s < 64 → ∀ r, r < 6 → nI s &&& (shlI 1 (nI r) ^^^ -1) = nI (if s / 2 ^ r % 2 = 1 then s - 2 ^ r else s) := by decide +kernel
theorem dpV_0 (A : Nat → Nat) (nx : Nat → Bool) (Lq : Nat → Nat) (n : Nat) : dpV A nx Lq 0 n = A 0 := by
  induction n with
  | zero => rfl
  | succ n ih => rw [dpV_s, if_neg (by simp), ih]
def nxs (nr : Nat) (nx : Nat → Bool) (r : Nat) : Bool := decide (r < nr) && nx r
/-- the row of losses by reader: 1000000 where there is none, or the page is too far -/
def lbN (nr : Nat) (nx : Nat → Bool) (Lq : Nat → Nat) (r : Nat) : Nat := if nxs nr nx r = true then Lq r else 1000000
theorem dpV_a (A : Nat → Nat) (nx : Nat → Bool) (Lq : Nat → Nat) (set nr : Nat) : ∀ n, n ≤ nr → dpV A (nxs nr nx) Lq set n = dpV A nx Lq set n := by
  intro n
  induction n with
  | zero => intro _; rfl
  | succ n ih =>
    intro h
    have e : nxs nr nx n = nx n := by
      show (decide (n < nr) && nx n) = nx n
      rw [decide_eq_true (show n < nr by omega), Bool.true_and]
    rw [dpV_s, dpV_s, ih (by omega), e]
theorem dpV_b (A : Nat → Nat) (nx : Nat → Bool) (Lq : Nat → Nat) (set nr : Nat) : ∀ k, dpV A (nxs nr nx) Lq set (nr + k) = dpV A nx Lq set nr := by
  intro k
  induction k with
  | zero => exact dpV_a A nx Lq set nr nr (Nat.le_refl _)
  | succ k ih =>
    have e : nxs nr nx (nr + k) = false := by
      show (decide (nr + k < nr) && nx (nr + k)) = false
      rw [decide_eq_false (show ¬ nr + k < nr by omega), Bool.false_and]
    rw [← Nat.add_assoc, dpV_s, if_neg (fun z => by rw [e] at z; exact absurd z.2.2 (by decide)), ih]
theorem dpV_lb (A : Nat → Nat) (nx : Nat → Bool) (Lq : Nat → Nat) {set nr i : Nat} (hA : A set ≤ 1000000) (hb : set / 2 ^ i % 2 = 1) : min (dpV A (nxs nr nx) Lq set i) (A (set - 2 ^ i) + lbN nr nx Lq i) = dpV A (nxs nr nx) Lq set (i + 1) := by
  have hd := (dpV_spec A (nxs nr nx) Lq set i).1
  rw [dpV_s]
  unfold lbN
  by_cases q : nxs nr nx i = true
  · rw [if_pos q]
    by_cases q2 : A (set - 2 ^ i) < 1000000
    · rw [if_pos ⟨hb, q2, q⟩]
    · rw [if_neg (fun z => q2 z.2.1), Nat.min_eq_left (by omega)]
  · rw [if_neg q, if_neg (fun z => q z.2.2), Nat.min_eq_left (by omega)]
def LBR (σ : Mm) (LB : Nat → Nat) : Prop := ∀ r, r < 6 → gI σ 334 r = nI (LB r)
theorem ln334 : ln 334 = 6 := by decide +kernel
theorem lbN_ok (g : HB np nr W H ru pg rd) (hB : WU D w) (p r : Nat) : lbN nr (shX ru pg rd w p) (fun r => shL lw np nr ru pg rd w r p) r ≤ 1000000 := by
  have := shL_ok (lw := lw) g hB r p
  unfold lbN
  split
  · dsimp only; omega
  · exact Nat.le_refl _
/-- what each loses by the page -/
theorem C_lossBy (hC : CC σ np nr W H ru pg rd lw w S jl acts pw) (hB : WU D w) {p : Nat} (hp : p < np) : ∃ σ', fX0_shareOut_w2 13 89 (pg (4 * p)) 0 σ = some σ' ∧ (Sm sCq σ σ' ∧ (∀ s, s < 64 → gI σ' 15 s = gI σ 15 s) ∧ LBR σ' (lbN nr (shX ru pg rd w p) (fun r => shL lw np nr ru pg rd w r p))) := by
  have g := hC.g
  have g2 := g.2.1
  unfold fX0_shareOut_w2
  refine wh_inv (fun i a => a.1 = nI i ∧ Sm sCq σ a.2 ∧ (∀ s, s < 64 → gI a.2 15 s = gI σ 15 s) ∧ ∀ r, r < i → gI a.2 334 r = nI (lbN nr (shX ru pg rd w p) (fun r => shL lw np nr ru pg rd w r p) r)) _ 6 BIG 0 _ (Nat.zero_le _) (by unfold BIG; omega) ⟨rfl, Sm.rf, fun _ _ => rfl, fun r hr => by omega⟩ ?_ ?_
  · rintro i ⟨j, s⟩ hi ⟨e1, e2, e3, e4⟩
    simp only at e1 e2 e3 e4
    subst e1
    left
    have hC' := hC.cq e2
    obtain ⟨f0, f1, f2, f3, f5⟩ := fin0 hC'.rf
    have f4 := finL hC'.rf
    have e6 : ¬ nI 6 ≤ nI i := fun z => absurd ((leT (by omega) (by omega)).mp z) (by omega)
    have far : fX8_reaches 11 89 (nI i) (pg (4 * p)) s = some 0 → lbN nr (shX ru pg rd w p) (fun r => shL lw np nr ru pg rd w r p) i = 1000000 → ∃ a', fX0_shareOut_l2 13 89 (pg (4 * p)) (nI i) s = some (Sum.inl a') ∧ a'.1 = nI (i + 1) ∧ Sm sCq σ a'.2 ∧ (∀ s, s < 64 → gI a'.2 15 s = gI σ 15 s) ∧ ∀ r, r < i + 1 → gI a'.2 334 r = nI (lbN nr (shX ru pg rd w p) (fun r => shL lw np nr ru pg rd w r p) r) := fun h1 h2 => by
      unfold fX0_shareOut_l2 fX0_shareOut_b44
      simp only [f4, f1, Option.bind_some, ln334, if_neg e6, h1, if_true, ixT hi (show 6 ≤ 2147483648 by omega), clT (show i < 2147483648 by omega), nI_1]
      refine ⟨_, rfl, rfl, e2.sI (by unfold sCq; simp), fun t ht => ?_, fun r hr => ?_⟩
      · dsimp only
        rw [gI_sI, if_neg (by omega)]
        exact e3 t ht
      · dsimp only
        rw [gI_sI]
        by_cases z : r = i
        · rw [if_pos ⟨rfl, z⟩, z, h2]; rfl
        · rw [if_neg (fun y => z y.2)]; exact e4 r (by omega)
    by_cases q : i < nr
    · have hr := c_reaches g hC'.hc hC'.rf.wr hC'.rf.sr89 hC'.sc q (show 0 < np by omega) (pg (4 * p))
      by_cases q3 : rd (4 * i + 2) < sAp ru (w (24 + 14 * i)) (pg (4 * p))
      · have hx : shX ru pg rd w p i = false := by unfold shX sNear; simp [q3]
        rw [if_pos q3] at hr
        refine far hr ?_
        unfold lbN nxs
        rw [hx, Bool.and_false, if_neg (by decide)]
      · have hx : shX ru pg rd w p i = true := by unfold shX sNear; rw [if_neg q3]; decide
        rw [if_neg q3] at hr
        obtain ⟨s2, k1, k2⟩ := c_lossIn g hC'.hc hC'.rf.wr hC'.rf.sr89 hC'.sc hC'.hl SB89 q (pg (4 * p))
        have k1' : fX8_lossIn 11 89 (nI i) (pg (4 * p)) s = some (nI (shL lw np nr ru pg rd w i p), s2) := by rw [k1]; exact congrArg some (Prod.ext (shL_eq (lw := lw) g hB q hp) rfl)
        have h2 : lbN nr (shX ru pg rd w p) (fun r => shL lw np nr ru pg rd w r p) i = shL lw np nr ru pg rd w i p := by
          unfold lbN nxs
          rw [hx, decide_eq_true q, Bool.and_true, if_pos rfl]
        unfold fX0_shareOut_l2 fX0_shareOut_b44
        simp only [f4, f1, Option.bind_some, ln334, if_neg e6, hr, if_neg z1, k1', bnd2_some, if_true, ixT hi (show 6 ≤ 2147483648 by omega), clT (show i < 2147483648 by omega), nI_1]
        refine ⟨_, rfl, rfl, (e2.tr k2.cq).sI (by unfold sCq; simp), fun t ht => ?_, fun r hr => ?_⟩
        · dsimp only
          rw [gI_sI, if_neg (by omega), k2.1 _ _ (scr_no (by omega))]
          exact e3 t ht
        · dsimp only
          rw [gI_sI]
          by_cases z : r = i
          · rw [if_pos ⟨rfl, z⟩, z, h2]
          · rw [if_neg (fun y => z y.2), k2.1 _ _ (scr_no (by omega))]; exact e4 r (by omega)
    · have ho : ¬ ∃ r, r < nr ∧ nI i = nI r := by
        rintro ⟨r, h1, h2⟩
        have := (eqT (by omega) (by omega)).mp h2
        omega
      refine far (c_reaches_out g hC'.hc hC'.rf.wr ho 89 _) ?_
      unfold lbN nxs
      rw [decide_eq_false q, Bool.false_and, if_neg (by decide)]
  · rintro ⟨j, s⟩ ⟨e1, e2, e3, e4⟩
    simp only at e1 e2 e3 e4
    subst e1
    have hC' := hC.cq e2
    have f4 := finL hC'.rf
    unfold fX0_shareOut_l2
    simp only [f4, Option.bind_some, ln334, if_pos (Int32.le_refl _)]
    exact ⟨_, rfl, e2, e3, fun r hr => e4 r hr⟩
theorem C_so66 {A B : Nat → Nat} {nx : Nat → Bool} {Lq : Nat → Nat} (hF : RF σ) {set : Nat} (hs : set < 64) (hA : ∀ s, s < 64 → A s ≤ 1000000) (hAB : ∀ s, s ≤ set → B s = A s) (hR : AR σ B) (hL : LBR σ (lbN nr nx Lq)) (hLb : ∀ r, lbN nr nx Lq r ≤ 1000000) : ∃ σ', fX0_shareOut_w66 13 (nI set) 0 σ = some σ' ∧ (Sm (fun c _ => c == 15) σ σ' ∧ AR σ' (fun s => if s = set then dpV A (nxs nr nx) Lq set 6 else B s)) := by
  unfold fX0_shareOut_w66
  refine wh_inv (fun i a => a.1 = nI i ∧ Sm (fun c _ => c == 15) σ a.2 ∧ AR a.2 (fun s => if s = set then dpV A (nxs nr nx) Lq set i else B s)) _ 6 BIG 0 _ (Nat.zero_le _) (by unfold BIG; omega) ⟨rfl, Sm.rf, fun s hs' => ?_⟩ ?_ ?_
  · dsimp only
    rw [hR s hs']
    by_cases z : s = set
    · rw [if_pos z, z, hAB _ (Nat.le_refl _)]; rfl
    · rw [if_neg z]
  · rintro i ⟨j, s⟩ hi ⟨e1, e2, e3⟩
    simp only at e1 e2 e3
    subst e1
    left
    have hF' := hF.sm e2
    obtain ⟨f0, f1, f2, f3, f5⟩ := fin0 hF'
    have f4 := finL hF'
    have e6 : ¬ nI 6 ≤ nI i := fun z => absurd ((leT (by omega) (by omega)).mp z) (by omega)
    have l15 := ln16.2.2.2.1
    unfold fX0_shareOut_l66 fX0_shareOut_b122
    simp only [f3, f4, Option.bind_some, ln334, if_neg e6, wo_tab set hs i hi, l15, nI_1]
    by_cases q : set / 2 ^ i % 2 = 1
    · obtain ⟨c1, c2, c3⟩ := sub_bit set hs i hi q
      have p2 : 0 < 2 ^ i := Nat.pow_pos (by omega)
      have ne : ¬ nI (set - 2 ^ i) = nI set := fun z => absurd ((eqT (by omega) (by omega)).mp z) (by omega)
      have eB : gI s 15 (set - 2 ^ i) = nI (A (set - 2 ^ i)) := by
        rw [e3 _ c2]; dsimp only; rw [if_neg (by omega), hAB _ (by omega)]
      have eL : gI s 334 i = nI (lbN nr nx Lq i) := by rw [e2.1 _ _ rfl]; exact hL i hi
      have eS : gI s 15 set = nI (dpV A (nxs nr nx) Lq set i) := by
        rw [e3 _ hs]; dsimp only; rw [if_pos rfl]
      have hA1 := hA _ c2
      have hA2 := hA _ hs
      have hL1 := hLb i
      have hd := (dpV_spec A (nxs nr nx) Lq set i).1
      simp only [if_pos q, if_neg ne, ixT hs (show 64 ≤ 2147483648 by omega), ixT (show set - 2 ^ i < 64 by omega) (by omega), ixT hi (show 6 ≤ 2147483648 by omega), if_true, clT (show set < 2147483648 by omega), clT (show set - 2 ^ i < 2147483648 by omega), clT (show i < 2147483648 by omega), eB, eL, eS, nI_add, minN (dpV A (nxs nr nx) Lq set i) (A (set - 2 ^ i) + lbN nr nx Lq i) (by omega) (by omega), dpV_lb A nx Lq hA2 q]
      refine ⟨_, rfl, rfl, e2.sI rfl, fun t ht => ?_⟩
      dsimp only
      rw [gI_sI]
      by_cases z : t = set
      · rw [if_pos ⟨rfl, z⟩, if_pos z]
      · rw [if_neg (fun y => z y.2), if_neg z, e3 t ht]; dsimp only; rw [if_neg z]
    · simp only [if_neg q, if_true]
      refine ⟨_, rfl, rfl, e2, fun t ht => ?_⟩
      dsimp only
      rw [e3 t ht]
      dsimp only
      rw [dpV_s, if_neg (show ¬ (set / 2 ^ i % 2 = 1 ∧ A (set - 2 ^ i) < 1000000 ∧ nxs nr nx i = true) from fun z => q z.1)]
  · rintro ⟨j, s⟩ ⟨e1, e2, e3⟩
    simp only at e1 e2 e3
    subst e1
    have f4 := finL (hF.sm e2)
    unfold fX0_shareOut_l66
    simp only [f4, Option.bind_some, ln334, if_pos (Int32.le_refl _)]
    exact ⟨_, rfl, e2, e3⟩
theorem C_shareOut {A : Nat → Nat} (hC : CC σ np nr W H ru pg rd lw w S jl acts pw) (hB : WU D w) {p : Nat} (hp : p < np) (hA : ∀ s, s < 64 → A s ≤ 1000000) (hR : AR σ A) : ∃ σ', fX0_shareOut 13 89 (pg (4 * p)) σ = some σ' ∧ Sm sCq σ σ' ∧ AR σ' (fun s => dpV A (shX ru pg rd w p) (fun r => shL lw np nr ru pg rd w r p) s nr) := by
  have g := hC.g
  have g2 := g.2.1
  obtain ⟨s0, b1, b2, b3, b4⟩ := C_lossBy hC hB hp
  have hC0 := hC.cq b2
  have hF0 := hC0.rf
  have hR0 : AR s0 A := fun s hs => by rw [b3 s hs]; exact hR s hs
  have hLb := lbN_ok (lw := lw) g hB p
  obtain ⟨f0, f1, f2, f3, f5⟩ := fin0 hF0
  unfold fX0_shareOut fX0_shareOut_w59
  rw [b1, Option.bind_some]
  dsimp only
  rw [f3, Option.bind_some, ln16.2.2.2.1, show nI 64 - 1 = nI 63 by decide]
  have key : ∃ s, wh (fun a : Int32 × Mm => fX0_shareOut_l59 13 a.1 a.2) BIG (nI 63, s0) = some s ∧ (Sm (fun c _ => c == 15) s0 s ∧ AR s (fun s => dpV A (shX ru pg rd w p) (fun r => shL lw np nr ru pg rd w r p) s nr)) := by
    refine wh_inv (fun i a => a.1 = nI (63 - i) ∧ Sm (fun c _ => c == 15) s0 a.2 ∧ AR a.2 (fun s => if 63 - i < s then dpV A (shX ru pg rd w p) (fun r => shL lw np nr ru pg rd w r p) s nr else A s)) _ 63 BIG 0 _ (Nat.zero_le _) (by unfold BIG; omega) ⟨rfl, Sm.rf, fun s hs => ?_⟩ ?_ ?_
    · dsimp only; rw [if_neg (by omega)]; exact hR0 s hs
    · rintro i ⟨j, s⟩ hi ⟨e1, e2, e3⟩
      simp only at e1 e2 e3
      subst e1
      left
      obtain ⟨s2, k1, k2, k3⟩ := C_so66 (nr := nr) (nx := shX ru pg rd w p) (Lq := fun r => shL lw np nr ru pg rd w r p) (set := 63 - i) (hF0.sm e2) (by omega) hA (fun t ht => by rw [if_neg (by omega)]) e3 (fun r hr => by rw [e2.1 _ _ rfl]; exact b4 r hr) hLb
      unfold fX0_shareOut_l59
      rw [if_neg (nI_nle (by omega) (by omega)), k1, Option.bind_some]
      refine ⟨_, rfl, ?_, e2.tr k2, fun t ht => ?_⟩
      · dsimp only; rw [nI_dec, if_neg (by omega)]; congr 1
      · dsimp only
        rw [k3 t ht]
        dsimp only
        by_cases z : t = 63 - i
        · rw [if_pos z, if_pos (by omega), z]
          have := dpV_b A (shX ru pg rd w p) (fun r => shL lw np nr ru pg rd w r p) (63 - i) nr (6 - nr)
          rw [show nr + (6 - nr) = 6 by omega] at this
          rw [this]
        · rw [if_neg z]
          by_cases y : 63 - i < t
          · rw [if_pos y, if_pos (by omega)]
          · rw [if_neg y, if_neg (by omega)]
    · rintro ⟨j, s⟩ ⟨e1, e2, e3⟩
      simp only at e1 e2 e3
      subst e1
      unfold fX0_shareOut_l59
      rw [if_pos (show nI (63 - 63) ≤ 0 from Int32.le_refl _)]
      refine ⟨_, rfl, e2, fun t ht => ?_⟩
      dsimp only
      rw [e3 t ht]
      dsimp only
      by_cases z : t = 0
      · subst z; rw [if_neg (by omega), dpV_0]
      · rw [if_pos (by omega)]
  obtain ⟨s, k1, k2, k3⟩ := key
  exact ⟨s, by rw [k1]; rfl, b2.tr (sCq_lo k2 (fun c k hc => by simp only [beq_eq_false_iff_ne, ne_eq]; omega)), k3⟩
theorem pop6 : ∀ s, s < 64 → popN 12 s ≤ 6 := by decide +kernel
theorem dif_tab : ∀ a, a < 7 → ∀ b, b < 7 → (0 < nI a - nI b ↔ b < a) ∧ (nI a - nI b = 0 ↔ a = b) := by decide +kernel
theorem C_findShare (hC : CC σ np nr W H ru pg rd lw w S jl acts pw) (hB : WU D w) (x : Int32) : ∃ b σ' C, fX0_findShare 13 89 x σ = some (nI b, σ') ∧ Sm sCq σ σ' ∧ b < 64 ∧ gI σ' 15 b = nI C ∧ Opt nr np (shF ru pg rd w x) (shL lw np nr ru pg rd w) (popN 12 b) C := by
  have g := hC.g
  have g1 := g.1
  have g2 := g.2.1
  obtain ⟨f0, f1, f2, f3, f4⟩ := fin0 hC.rf
  have l15 := ln16.2.2.2.1
  have hL := shL_ok (lw := lw) g hB
  have fil : ∃ s, fJ7_fill_53178 15 1000000 σ = some s ∧ (Sm (fun c _ => c == 15) σ s ∧ ∀ k, k < 64 → gI s 15 k = 1000000) := by
    unfold fJ7_fill_53178 fJ7_fill_53178_w5
    have key : ∃ s, wh (fun a : Int32 × Mm => fJ7_fill_53178_l5 15 1000000 (nI (ln 15)) a.1 a.2) BIG (0, σ) = some s ∧ (Sm (fun c _ => c == 15) σ s ∧ ∀ k, k < 64 → gI s 15 k = 1000000) := by
      refine wh_inv (fun i a => a.1 = nI i ∧ Sm (fun c _ => c == 15) σ a.2 ∧ ∀ k, k < i → gI a.2 15 k = 1000000) _ 64 BIG 0 _ (Nat.zero_le _) (by unfold BIG; omega) ⟨rfl, Sm.rf, fun k hk => by omega⟩ ?_ ?_
      · rintro i ⟨j, s⟩ hi ⟨e1, e2, e3⟩
        simp only at e1 e2 e3
        subst e1
        left
        unfold fJ7_fill_53178_l5
        rw [l15, if_neg (fun z => absurd ((leT (by omega) (by omega)).mp z) (by omega)), if_pos (ixT (by omega) (by omega)), clT (by omega), nI_1]
        refine ⟨_, rfl, rfl, e2.sI rfl, fun k hk => ?_⟩
        dsimp only
        rw [gI_sI]
        by_cases q : k = i
        · rw [if_pos ⟨rfl, q⟩]
        · rw [if_neg (fun z => q z.2)]; exact e3 k (by omega)
      · rintro ⟨j, s⟩ ⟨e1, e2, e3⟩
        simp only at e1 e2 e3
        subst e1
        unfold fJ7_fill_53178_l5
        rw [l15, if_pos (Int32.le_refl _)]
        exact ⟨_, rfl, e2, e3⟩
    obtain ⟨s, k1, k2⟩ := key
    exact ⟨s, by rw [k1]; rfl, k2⟩
  obtain ⟨s1, a1, a2, a3⟩ := fil
  have f3' : gR s1 13 3 = some 15 := by rw [a2.2.2 _ _ (by omega)]; exact f3
  have f1' : gR s1 13 1 = some 11 := by rw [a2.2.2 _ _ (by omega)]; exact f1
  have f0' : gR s1 13 0 = some 3 := by rw [a2.2.2 _ _ (by omega)]; exact f0
  have a4 : Sm sCq σ (sI s1 15 0 0) := (sCq_lo a2 (fun c k hc => by simp only [beq_eq_false_iff_ne, ne_eq]; omega)).sI rfl
  have hC2 := hC.cq a4
  have hA2 : AR (sI s1 15 0 0) (fun s => if s = 0 then 0 else 1000000) := fun k hk => by
    rw [gI_sI]
    dsimp only
    by_cases z : k = 0
    · rw [if_pos ⟨rfl, z⟩, if_pos z]; rfl
    · rw [if_neg (fun y => z y.2), if_neg z, a3 k hk]; rfl
  unfold fX0_findShare
  simp only [f3, Option.bind_some, a1, f3', l15, show ixB 0 64 = true by decide, if_true, show Int32.toNatClampNeg 0 = 0 by decide, f1', f0', c_pagesThere g hC2.hc hC2.rf.wr hC2.rf.sr89 hC2.sc, c_pagesOf g hC2.hc, mk_and _ _ (show np ≤ 31 by omega)]
  have lp : ∃ s, fX0_findShare_w37 13 89 (mk (fun p => decide (¬ w (2 * p) ≤ 0) && bkB pg x p) np) 0 (sI s1 15 0 0) = some s ∧ (Sm sCq σ s ∧ ∃ A, AR s A ∧ DPI nr np (shF ru pg rd w x) (shL lw np nr ru pg rd w) np A) := by
    unfold fX0_findShare_w37
    refine wh_inv (fun i a => a.1 = nI i ∧ Sm sCq σ a.2 ∧ ∃ A, AR a.2 A ∧ DPI nr np (shF ru pg rd w x) (shL lw np nr ru pg rd w) i A) _ np BIG 0 _ (Nat.zero_le _) (by unfold BIG; omega) ⟨rfl, a4, _, hA2, dp_zero g2⟩ ?_ ?_
    · rintro i ⟨j, s⟩ hi ⟨e1, e2, A, e3, e4⟩
      simp only at e1 e2 e3
      subst e1
      left
      have hC' := hC.cq e2
      obtain ⟨f0, -⟩ := fin0 hC'.rf
      have e6 : ¬ nI np ≤ nI i := fun z => absurd ((leT (by omega) (by omega)).mp z) (by omega)
      unfold fX0_findShare_l37 fX0_findShare_b73
      simp only [f0, Option.bind_some, hC'.hc.2.2.2.2.2.2.1, if_neg e6, mk_at _ (show np ≤ 12 by omega) hi, nI_1]
      by_cases q : (decide (¬ w (2 * i) ≤ 0) && bkB pg x i) = true
      · obtain ⟨s2, k1, k2, k3⟩ := C_shareOut (p := i) hC' hB hi e4.2.2 e3
        rw [if_pos q, if_pos rfl, c_pageCell g hC'.hc hi, Option.bind_some, k1, Option.bind_some]
        exact ⟨_, rfl, rfl, e2.tr k2, _, k3, dp_step g2 hi hL (fun r hr => by unfold shF shP; rw [q]; rfl) e4⟩
      · rw [if_neg q, if_neg (show ¬ (0 : Int32) = 1 by decide)]
        exact ⟨_, rfl, rfl, e2, A, e3, dp_skip (fun r hr => by unfold shF shP; rw [show (decide (¬ w (2 * i) ≤ 0) && bkB pg x i) = false by simpa using q]; rfl) e4⟩
    · rintro ⟨j, s⟩ ⟨e1, e2, A, e3, e4⟩
      simp only at e1 e2 e3
      subst e1
      have hC' := hC.cq e2
      obtain ⟨f0, -⟩ := fin0 hC'.rf
      unfold fX0_findShare_l37
      simp only [f0, Option.bind_some, hC'.hc.2.2.2.2.2.2.1, if_pos (Int32.le_refl _)]
      exact ⟨_, rfl, e2, A, e3, e4⟩
  obtain ⟨s, k1, k2, A, k3, d1, d2, d3⟩ := lp
  rw [k1]
  have hC' := hC.cq k2
  obtain ⟨_, _, _, f3'', _⟩ := fin0 hC'.rf
  have d2' : ∀ g, Asg nr np (shF ru pg rd w x) g → A (gs g nr) ≤ gc (shL lw np nr ru pg rd w) g nr := fun h hh => d2 h hh (fun t ht => by
    by_cases z : h t = 0
    · omega
    · exact (hh.1 t ht z).1)
  have A0 : A 0 = 0 := by
    have z1 : ∀ n, gs (fun _ => 0) n = 0 ∧ gc (shL lw np nr ru pg rd w) (fun _ => 0) n = 0 := by
      intro n
      induction n with
      | zero => exact ⟨rfl, rfl⟩
      | succ n ih => rw [gs_s, gc_s, if_pos rfl, if_pos rfl]; exact ih
    have := d2' _ Asg.zero
    rw [(z1 nr).1, (z1 nr).2] at this
    omega
  have sel : ∃ c, fX0_findShare_w85 13 0 1 s = some c ∧ (c.2 = s ∧ ∃ b, b < 64 ∧ c.1 = nI b ∧ A b < 1000000 ∧ ∀ t, t < 64 → A t < 1000000 → popN 12 t < popN 12 b ∨ popN 12 t = popN 12 b ∧ A b ≤ A t) := by
    unfold fX0_findShare_w85
    refine wh_inv (fun i a => a.2 = nI (i + 1) ∧ ∃ b, b < 64 ∧ a.1 = nI b ∧ A b < 1000000 ∧ ∀ t, t < i + 1 → A t < 1000000 → popN 12 t < popN 12 b ∨ popN 12 t = popN 12 b ∧ A b ≤ A t) _ 63 BIG 0 _ (Nat.zero_le _) (by unfold BIG; omega) ⟨rfl, 0, by omega, rfl, by omega, fun t ht _ => ?_⟩ ?_ ?_
    · have : t = 0 := by omega
      subst this
      exact Or.inr ⟨rfl, Nat.le_refl _⟩
    · rintro i ⟨a, j⟩ hi ⟨e1, b, hb, e2, e3, e4⟩
      simp only at e1 e2
      subst e1 e2
      left
      have p1 := pop6 (i + 1) (by omega)
      have p2 := pop6 b hb
      obtain ⟨t1, t2⟩ := dif_tab (popN 12 (i + 1)) (by omega) (popN 12 b) (by omega)
      have hA1 := d3 (i + 1) (by omega)
      have hA2 := d3 b hb
      unfold fX0_findShare_l85 fX0_findShare_b147 fX0_findShare_b151
      simp only [f3'', Option.bind_some, l15, if_neg (show ¬ nI 64 ≤ nI (i + 1) from fun z => absurd ((leT (by omega) (by omega)).mp z) (by omega)), bc_f, bc_tab (i + 1) (by omega), bc_tab b (by omega), ixT (show i + 1 < 64 by omega) (by omega), ixT hb (show 64 ≤ 2147483648 by omega), if_true, clT (show i + 1 < 2147483648 by omega), clT (show b < 2147483648 by omega), k3 (i + 1) (by omega), k3 b hb, t1, t2, nI_1]
      by_cases q : A (i + 1) < 1000000
      · rw [if_neg (show ¬ (1000000 : Int32) ≤ nI (A (i + 1)) from fun z => absurd ((leT (a := 1000000) (by omega) (by omega)).mp z) (by omega))]
        by_cases q2 : popN 12 b < popN 12 (i + 1)
        · rw [if_pos q2]
          refine ⟨_, rfl, rfl, i + 1, by omega, rfl, q, fun t ht hq => ?_⟩
          by_cases z : t = i + 1
          · subst z; exact Or.inr ⟨rfl, Nat.le_refl _⟩
          · have := e4 t (by omega) hq; omega
        · rw [if_neg q2]
          by_cases q3 : popN 12 (i + 1) = popN 12 b
          · rw [if_pos q3]
            by_cases q4 : A b ≤ A (i + 1)
            · rw [if_pos ((leT (by omega) (by omega)).mpr q4)]
              refine ⟨_, rfl, rfl, b, hb, rfl, e3, fun t ht hq => ?_⟩
              by_cases z : t = i + 1
              · subst z; exact Or.inr ⟨q3, q4⟩
              · exact e4 t (by omega) hq
            · rw [if_neg (fun z => q4 ((leT (by omega) (by omega)).mp z))]
              refine ⟨_, rfl, rfl, i + 1, by omega, rfl, q, fun t ht hq => ?_⟩
              by_cases z : t = i + 1
              · subst z; exact Or.inr ⟨rfl, Nat.le_refl _⟩
              · have := e4 t (by omega) hq; omega
          · rw [if_neg q3]
            refine ⟨_, rfl, rfl, b, hb, rfl, e3, fun t ht hq => ?_⟩
            by_cases z : t = i + 1
            · subst z; left; omega
            · exact e4 t (by omega) hq
      · rw [if_pos (show (1000000 : Int32) ≤ nI (A (i + 1)) from (leT (a := 1000000) (by omega) (by omega)).mpr (by omega))]
        refine ⟨_, rfl, rfl, b, hb, rfl, e3, fun t ht hq => ?_⟩
        by_cases z : t = i + 1
        · subst z; exact absurd hq q
        · exact e4 t (by omega) hq
    · rintro ⟨a, j⟩ ⟨e1, b, hb, e2, e3, e4⟩
      simp only at e1 e2
      subst e1 e2
      unfold fX0_findShare_l85
      simp only [f3'', Option.bind_some, l15, if_pos (show nI 64 ≤ nI (63 + 1) from Int32.le_refl _)]
      exact ⟨_, rfl, rfl, b, hb, rfl, e3, fun t ht => e4 t (by omega)⟩
  obtain ⟨⟨c1, c2⟩, j1, j2, b, hb, j3, j4, j5⟩ := sel
  simp only at j2 j3
  subst j2 j3
  simp only [Option.bind_some, j1]
  refine ⟨b, c2, A b, rfl, k2, hb, k3 b hb, ?_, fun h hh => ?_⟩
  · obtain ⟨h, x1, x2, x3, x4⟩ := d1 b hb j4
    exact ⟨h, x1, by rw [← x3, gs_pop h nr g2], x4⟩
  · have y1 := gs_lt h nr
    have y2 := pow6 g2
    have y3 := d2' h hh
    have y4 := gc_le hL h nr
    have := j5 (gs h nr) (by omega) (by omega)
    rw [gs_pop h nr g2] at this
    omega
/-! the model's side -/
def sSh (c k : Nat) : Bool := c == 310 && (k == 46 || k == 47)
theorem MM.sh {τ' : Mm} (h : MM τ np nr W H ru pg rd nl F lw w S jl acts pw) (s : Sm sSh τ τ') : MM τ' np nr W H ru pg rd nl F lw w S jl acts pw := by
  refine h.mq (s.mono (fun c k hc => ?_)) (h.1.row s (fun c k hc => ?_))
  · unfold sMq at hc; unfold sSh
    simp only [Bool.or_eq_false_iff, Bool.and_eq_false_imp, beq_iff_eq, beq_eq_false_iff_ne, decide_eq_true_eq, decide_eq_false_iff_not, ne_eq] at hc ⊢
    intro z
    have := hc.2 z
    omega
  · unfold sSh at hc
    simp only [Bool.and_eq_true, Bool.or_eq_true, beq_iff_eq] at hc
    omega
def cov (M C a b : Nat) : Prop := a < M ∨ a = M ∧ C ≤ b
theorem X_share (g : HB np nr W H ru pg rd) (hB : WU D w) (x : Int32) : ∀ (k r : Nat) (h : Nat → Nat) (T : Nat → Bool) (τ : Mm) (M C : Nat), nr - r < k → r ≤ nr → MM τ np nr W H ru pg rd nl F lw w S jl acts pw → (∀ r p, r < nr → p < np → shP pg w x p = true → gI τ 330 (12 * r + p) = nI (shL lw np nr ru pg rd w r p)) → Asg nr np (shF ru pg rd w x) h → (∀ t, r ≤ t → h t = 0) → (∀ p, p < np → (T p = true ↔ ∃ t, t < r ∧ h t = p + 1)) → M ≤ 6 → C ≤ 1000000 → gI τ 310 46 = nI M → gI τ 310 47 = nI C → ∃ M' C' τ', gX10s k 310 x (nI r) (mk T np) (nI (gm h nr)) (nI (gc (shL lw np nr ru pg rd w) h nr)) τ = some τ' ∧ Sm sSh τ τ' ∧ M' ≤ 6 ∧ C' ≤ 1000000 ∧ gI τ' 310 46 = nI M' ∧ gI τ' 310 47 = nI C' ∧ (∀ a b, cov M C a b → cov M' C' a b) ∧ (∀ h', Asg nr np (shF ru pg rd w x) h' → (∀ t, t < r → h' t = h t) → cov M' C' (gm h' nr) (gc (shL lw np nr ru pg rd w) h' nr)) ∧ ((M' = M ∧ C' = C) ∨ ∃ h', Asg nr np (shF ru pg rd w x) h' ∧ gm h' nr = M' ∧ gc (shL lw np nr ru pg rd w) h' nr = C') := by
  have g1 := g.1
  have g2 := g.2.1
  have hL := shL_ok (lw := lw) g hB
  intro k
  induction k with
  | zero => intros; omega
  | succ k ih =>
    intro r h T τ M C hk hr hM hR hA h0 hT hM6 hC6 eM eC
    have l1 := gm_le h nr
    have l2 := gc_le hL h nr
    unfold gX10s fX10_goShare
    rw [hM.1.hm.2.2.2.1, eM, eC]
    by_cases q : r = nr
    · subst q
      rw [if_pos rfl]
      have same : ∀ h', (∀ t, t < r → h' t = h t) → ∀ n, n ≤ r → gm h' n = gm h n ∧ gc (shL lw np r ru pg rd w) h' n = gc (shL lw np r ru pg rd w) h n := by
        intro h' he n
        induction n with
        | zero => intro _; exact ⟨rfl, rfl⟩
        | succ n ih2 =>
          intro hn
          rw [gm_s, gc_s, gm_s, gc_s, he n (by omega), (ih2 (by omega)).1, (ih2 (by omega)).2]
          exact ⟨rfl, rfl⟩
      have cl : ∀ M' C', cov M' C' (gm h r) (gc (shL lw np r ru pg rd w) h r) → ∀ h', Asg r np (shF ru pg rd w x) h' → (∀ t, t < r → h' t = h t) → cov M' C' (gm h' r) (gc (shL lw np r ru pg rd w) h' r) := fun M' C' hc h' _ he => by
        rw [(same h' he r (Nat.le_refl _)).1, (same h' he r (Nat.le_refl _)).2]; exact hc
      have set : ∃ M' C' τ', some (sI (sI τ 310 46 (nI (gm h r))) 310 47 (nI (gc (shL lw np r ru pg rd w) h r))) = some τ' ∧ Sm sSh τ τ' ∧ M' ≤ 6 ∧ C' ≤ 1000000 ∧ gI τ' 310 46 = nI M' ∧ gI τ' 310 47 = nI C' ∧ ((gm h r < M ∨ gm h r = M ∧ C ≤ gc (shL lw np r ru pg rd w) h r) ∨ ∀ a b, cov M C a b → cov M' C' a b) ∧ (∀ h', Asg r np (shF ru pg rd w x) h' → (∀ t, t < r → h' t = h t) → cov M' C' (gm h' r) (gc (shL lw np r ru pg rd w) h' r)) ∧ ((M' = M ∧ C' = C) ∨ ∃ h', Asg r np (shF ru pg rd w x) h' ∧ gm h' r = M' ∧ gc (shL lw np r ru pg rd w) h' r = C') := by
        refine ⟨gm h r, gc (shL lw np r ru pg rd w) h r, _, rfl, (Sm.rf.sI rfl).sI rfl, by omega, by omega, by simp [gI_sI], by simp [gI_sI], ?_, cl _ _ (Or.inr ⟨rfl, Nat.le_refl _⟩), Or.inr ⟨h, hA, rfl, rfl⟩⟩
        by_cases z : gm h r < M ∨ gm h r = M ∧ C ≤ gc (shL lw np r ru pg rd w) h r
        · exact Or.inl z
        · right
          intro a b hc
          unfold cov at hc ⊢
          omega
      by_cases q1 : gm h r < M
      · rw [if_pos ((ltT (by omega) (by omega)).mpr q1)]
        exact ⟨M, C, τ, rfl, Sm.rf, hM6, hC6, eM, eC, fun _ _ hc => hc, cl M C (Or.inl q1), Or.inl ⟨rfl, rfl⟩⟩
      · rw [if_neg (fun z => q1 ((ltT (by omega) (by omega)).mp z))]
        unfold fX10_goShare_b36
        by_cases q2 : gm h r = M
        · rw [if_pos ((eqT (by omega) (by omega)).mpr q2)]
          by_cases q3 : gc (shL lw np r ru pg rd w) h r < C
          · rw [if_pos ((ltT (by omega) (by omega)).mpr q3)]
            obtain ⟨M', C', τ', x1, x2, x3, x4, x5, x6, x7, x8⟩ := set
            exact ⟨M', C', τ', x1, x2, x3, x4, x5, x6, x7.resolve_left (by omega), x8⟩
          · rw [if_neg (fun z => q3 ((ltT (by omega) (by omega)).mp z))]
            exact ⟨M, C, τ, rfl, Sm.rf, hM6, hC6, eM, eC, fun _ _ hc => hc, cl M C (Or.inr ⟨q2, by omega⟩), Or.inl ⟨rfl, rfl⟩⟩
        · rw [if_neg (fun z => q2 ((eqT (by omega) (by omega)).mp z))]
          obtain ⟨M', C', τ', x1, x2, x3, x4, x5, x6, x7, x8⟩ := set
          exact ⟨M', C', τ', x1, x2, x3, x4, x5, x6, x7.resolve_left (by omega), x8⟩
    · have hrn : r < nr := by omega
      have hk2 : nr - (r + 1) < k := by omega
      have hr1 : r + 1 ≤ nr := by omega
      rw [if_neg (fun z => q ((eqT (by omega) (by omega)).mp z)), nI_1]
      have hr0 := h0 r (Nat.le_refl _)
      obtain ⟨M1, C1, τ1, a1, a2, a3, a4, a5, a6, a7, a8, a9⟩ := ih (r + 1) h T τ M C (by omega) (by omega) hM hR hA (fun t ht => h0 t (by omega)) (fun p hp => by
        rw [hT p hp]
        constructor
        · rintro ⟨t, ht, e⟩; exact ⟨t, by omega, e⟩
        · rintro ⟨t, ht, e⟩
          refine ⟨t, ?_, e⟩
          by_cases z : t = r
          · subst z; omega
          · omega) hM6 hC6 eM eC
      rw [a1, Option.bind_some]
      have lp : ∃ t, fX10_goShare_w65 (gX10s k) 310 x (nI r) (mk T np) (nI (gm h nr)) (nI (gc (shL lw np nr ru pg rd w) h nr)) 0 τ1 = some t ∧ (Sm sSh τ t ∧ ∃ M' C', M' ≤ 6 ∧ C' ≤ 1000000 ∧ gI t 310 46 = nI M' ∧ gI t 310 47 = nI C' ∧ (∀ a b, cov M C a b → cov M' C' a b) ∧ (∀ h', Asg nr np (shF ru pg rd w x) h' → (∀ t, t < r → h' t = h t) → h' r ≤ np → cov M' C' (gm h' nr) (gc (shL lw np nr ru pg rd w) h' nr)) ∧ ((M' = M ∧ C' = C) ∨ ∃ h', Asg nr np (shF ru pg rd w x) h' ∧ gm h' nr = M' ∧ gc (shL lw np nr ru pg rd w) h' nr = C')) := by
        unfold fX10_goShare_w65
        refine wh_inv (fun i a => a.1 = nI i ∧ Sm sSh τ a.2 ∧ ∃ M' C', M' ≤ 6 ∧ C' ≤ 1000000 ∧ gI a.2 310 46 = nI M' ∧ gI a.2 310 47 = nI C' ∧ (∀ a b, cov M C a b → cov M' C' a b) ∧ (∀ h', Asg nr np (shF ru pg rd w x) h' → (∀ t, t < r → h' t = h t) → h' r ≤ i → cov M' C' (gm h' nr) (gc (shL lw np nr ru pg rd w) h' nr)) ∧ ((M' = M ∧ C' = C) ∨ ∃ h', Asg nr np (shF ru pg rd w x) h' ∧ gm h' nr = M' ∧ gc (shL lw np nr ru pg rd w) h' nr = C')) _ np BIG 0 _ (Nat.zero_le _) (by unfold BIG; omega) ⟨rfl, a2, M1, C1, a3, a4, a5, a6, a7, fun h' hh he hz => a8 h' hh (fun t ht => ?_), a9⟩ ?_ ?_
        · by_cases z : t = r
          · subst z; omega
          · exact he t (by omega)
        · rintro i ⟨j, t⟩ hi ⟨e1, e2, M', C', b1, b2, b3, b4, b5, b6, b7⟩
          simp only at e1 e2 b3 b4
          subst e1
          left
          have hMt := hM.sh e2
          have e6 : ¬ nI np ≤ nI i := fun z => absurd ((leT (by omega) (by omega)).mp z) (by omega)
          obtain ⟨p1, p2, p3⟩ := m_pg (k := 0) hMt.1.hm g1 hi (by omega)
          rw [Nat.add_zero] at p2 p3
          have r48 : gR t 310 48 = some 330 := hMt.1.hm.1.2.2.2.2.2.2.2.2.2.2.2.2.2.2.2.2.2.2.2.2.2.1
          have le0 := le0_eq hB (show 2 * i < 109 by omega)
          have e12 : (12 : Int32) * nI r + nI i = nI (12 * r + i) := by rw [show (12 : Int32) = nI 12 from rfl, pk_mul, nI_add]
          -- nothing new by this page
          have skip : ¬ (shF ru pg rd w x r i = true ∧ T i = false) → ∃ a', some (Sum.inl (nI (i + 1), t)) = some (Sum.inl a' : (Int32 × Mm) ⊕ Mm) ∧ (a'.1 = nI (i + 1) ∧ Sm sSh τ a'.2 ∧ ∃ M' C', M' ≤ 6 ∧ C' ≤ 1000000 ∧ gI a'.2 310 46 = nI M' ∧ gI a'.2 310 47 = nI C' ∧ (∀ a b, cov M C a b → cov M' C' a b) ∧ (∀ h', Asg nr np (shF ru pg rd w x) h' → (∀ t, t < r → h' t = h t) → h' r ≤ i + 1 → cov M' C' (gm h' nr) (gc (shL lw np nr ru pg rd w) h' nr)) ∧ ((M' = M ∧ C' = C) ∨ ∃ h', Asg nr np (shF ru pg rd w x) h' ∧ gm h' nr = M' ∧ gc (shL lw np nr ru pg rd w) h' nr = C')) := by
            intro hn
            refine ⟨_, rfl, rfl, e2, M', C', b1, b2, b3, b4, b5, fun h' hh he hz => ?_, b7⟩
            by_cases z : h' r = i + 1
            · exfalso
              apply hn
              have y := (hh.1 r hrn (by omega)).2
              rw [z, Nat.add_sub_cancel] at y
              refine ⟨y, ?_⟩
              by_cases u : T i = true
              · obtain ⟨t', ht', et⟩ := (hT i hi).mp u
                have := hh.2 r t' hrn (by omega) (by omega) (by rw [z, he t' ht', et])
                omega
              · simpa using u
            · exact b6 h' hh he (by omega)
          unfold fX10_goShare_l65 fX10_goShare_b162 fX10_has
          simp only [hMt.1.hm.2.2.1, if_neg e6, m_isOf g hMt.1.hm hi, Option.bind_some, mk_at T (show np ≤ 12 by omega) hi, hMt.r33, i2p, ln323, ixT (show 2 * i < 351 by omega) (by omega), if_true, clT (show 2 * i < 2147483648 by omega), hMt.2.1 (2 * i) (by omega), p1, i4p, p2, clT (show 4 * i < 2147483648 by omega), p3, m_near g hMt.1.hm ln323 hMt.2.1 (show 0 < np by omega) hrn, r48, e12, ln16.2.2.2.2, ixT (show 12 * r + i < 72 by omega) (by omega), clT (show 12 * r + i < 2147483648 by omega), nI_1]
          by_cases q1 : pg (4 * i + 2) = x
          · simp only [if_pos q1, if_neg z1]
            by_cases q2 : T i = true
            · simp only [if_pos q2, if_true, Option.bind_some, if_neg z1]
              exact skip (fun z => by rw [q2] at z; exact absurd z.2 (by decide))
            · simp only [if_neg q2, if_neg (show ¬ (0 : Int32) = 1 by decide), Option.bind_some, if_true]
              by_cases q3 : w (2 * i) = 0
              · simp only [if_pos q3]
                exact skip (fun z => (shF_iff.mp z.1).1.1 (le0.mpr q3))
              · simp only [if_neg q3]
                by_cases q4 : sNear ru rd w r (pg (4 * i)) = 0
                · simp only [if_pos q4]
                  exact skip (fun z => (shF_iff.mp z.1).2 q4)
                · simp only [if_neg q4]
                  have hP : shP pg w x i = true := shP_iff.mpr ⟨fun z => q3 (le0.mp z), q1⟩
                  have hF : shF ru pg rd w x r i = true := shF_iff.mpr ⟨⟨fun z => q3 (le0.mp z), q1⟩, q4⟩
                  have ev : gI t 330 (12 * r + i) = nI (shL lw np nr ru pg rd w r i) := by
                    rw [e2.1 _ _ rfl]; exact hR r i hrn hi hP
                  have eT : mk T np ||| shlI 1 (nI i) = mk (fun p => T p || decide (p = i)) np := by
                    rw [one_mk hi (by omega), mk_or _ _ (by omega)]
                  obtain ⟨u1, u2, u3⟩ := up_all (shL lw np nr ru pg rd w) (p := i) hr0 nr
                  rw [if_pos hrn] at u2 u3
                  have hA' : Asg nr np (shF ru pg rd w x) (ugd h r (i + 1)) := hA.up hi hF (fun s hs e => by
                    by_cases z : s < r
                    · exact q2 ((hT i hi).mpr ⟨s, z, e⟩)
                    · have := h0 s (by omega); omega)
                  obtain ⟨M2, C2, t2, c1, c2, c3, c4, c5, c6, c7, c8, c9⟩ := ih (r + 1) (ugd h r (i + 1)) (fun p => T p || decide (p = i)) t M' C' hk2 hr1 hMt (fun r p hr hp hp2 => by rw [e2.1 _ _ rfl]; exact hR r p hr hp hp2) hA' (fun s hs => by rw [ugd_ne h (by omega)]; exact h0 s (by omega)) (fun p hp => by
                    rw [Bool.or_eq_true, hT p hp, decide_eq_true_eq]
                    constructor
                    · rintro (⟨s, hs, e⟩ | rfl)
                      · exact ⟨s, by omega, by rw [ugd_ne h (by omega)]; exact e⟩
                      · exact ⟨r, by omega, ugd_at _ _ _⟩
                    · rintro ⟨s, hs, e⟩
                      by_cases z : s = r
                      · subst z; rw [ugd_at] at e; right; omega
                      · rw [ugd_ne h z] at e; exact Or.inl ⟨s, by omega, e⟩) b1 b2 b3 b4
                  rw [u2, u3] at c1
                  rw [ev, nI_add, eT, c1, Option.bind_some]
                  refine ⟨_, rfl, rfl, e2.tr c2, M2, C2, c3, c4, c5, c6, fun a b hc => c7 a b (b5 a b hc), fun h' hh he hz => ?_, ?_⟩
                  · by_cases z : h' r = i + 1
                    · refine c8 h' hh (fun s hs => ?_)
                      by_cases y : s = r
                      · subst y; rw [ugd_at, z]
                      · rw [ugd_ne h y]; exact he s (by omega)
                    · exact c7 _ _ (b6 h' hh he (by omega))
                  · rcases c9 with ⟨rfl, rfl⟩ | c9
                    · exact b7
                    · exact Or.inr c9
          · simp only [if_neg q1, if_true]
            exact skip (fun z => q1 (shF_iff.mp z.1).1.2)
        · rintro ⟨j, t⟩ ⟨e1, e2, e3⟩
          simp only at e1 e2 e3
          subst e1
          have hMt := hM.sh e2
          unfold fX10_goShare_l65
          rw [hMt.1.hm.2.2.1, if_pos (Int32.le_refl _)]
          exact ⟨_, rfl, e2, e3⟩
      obtain ⟨t, b1, b2, M', C', b3, b4, b5, b6, b7, b8, b9⟩ := lp
      rw [b1]
      exact ⟨M', C', t, rfl, b2, b3, b4, b5, b6, b7, fun h' hh he => b8 h' hh he (by
        by_cases z : h' r = 0
        · omega
        · exact (hh.1 r hrn z).1), b9⟩
theorem M_losses (g : HB np nr W H ru pg rd) (hB : WU D w) (hD : D < 2147483648) (hM : MM τ np nr W H ru pg rd nl F lw w S jl acts pw) (x y : Int32) : ∃ τ', fX10_share_w38 310 x y 0 τ = some τ' ∧ (Sm sMq τ τ' ∧ MM τ' np nr W H ru pg rd nl F lw w S jl acts pw ∧ ∀ r p, r < nr → p < np → shP pg w x p = true → gI τ' 330 (12 * r + p) = nI (shL lw np nr ru pg rd w r p)) := by
  have g1 := g.1
  have g2 := g.2.1
  have hWH := WH_lt g
  have s330 : ∀ c k, sMq c k = false → (fun c (_ : Nat) => c == 330) c k = false := fun c k hc => by
    unfold sMq at hc
    simp only [Bool.or_eq_false_iff] at hc
    exact hc.1.1.2
  unfold fX10_share_w38
  refine wh_inv (fun i a => a.1 = nI i ∧ Sm sMq τ a.2 ∧ MM a.2 np nr W H ru pg rd nl F lw w S jl acts pw ∧ ∀ r p, r < i → p < np → shP pg w x p = true → gI a.2 330 (12 * r + p) = nI (shL lw np nr ru pg rd w r p)) _ nr BIG 0 _ (Nat.zero_le _) (by unfold BIG; omega) ⟨rfl, Sm.rf, hM, fun r p hr => by omega⟩ ?_ ?_
  · rintro r ⟨j, t⟩ hr ⟨e1, e2, e3, e4⟩
    simp only at e1 e2 e3 e4
    subst e1
    left
    have e6 : ¬ nI nr ≤ nI r := fun z => absurd ((leT (by omega) (by omega)).mp z) (by omega)
    have inn : ∃ t', fX10_share_w49 310 x y (nI r) 0 t = some t' ∧ (Sm sMq τ t' ∧ MM t' np nr W H ru pg rd nl F lw w S jl acts pw ∧ ∀ r' p, r' < r + 1 → p < np → shP pg w x p = true → gI t' 330 (12 * r' + p) = nI (shL lw np nr ru pg rd w r' p)) := by
      unfold fX10_share_w49
      refine wh_inv (fun i a => a.1 = nI i ∧ Sm sMq τ a.2 ∧ MM a.2 np nr W H ru pg rd nl F lw w S jl acts pw ∧ ∀ r' p, (r' < r ∧ p < np ∨ r' = r ∧ p < i) → shP pg w x p = true → gI a.2 330 (12 * r' + p) = nI (shL lw np nr ru pg rd w r' p)) _ np BIG 0 _ (Nat.zero_le _) (by unfold BIG; omega) ⟨rfl, e2, e3, fun r' p hz hp => ?_⟩ ?_ ?_
      · rcases hz with hz | hz
        · exact e4 r' p hz.1 hz.2 hp
        · omega
      · rintro i ⟨j, t⟩ hi ⟨e1, e2, e3, e4⟩
        simp only at e1 e2 e3 e4
        subst e1
        left
        have e7 : ¬ nI np ≤ nI i := fun z => absurd ((leT (by omega) (by omega)).mp z) (by omega)
        obtain ⟨p1, p2, p3⟩ := m_pg (k := 0) e3.1.hm g1 hi (by omega)
        rw [Nat.add_zero] at p2 p3
        have r48 : gR t 310 48 = some 330 := e3.1.hm.1.2.2.2.2.2.2.2.2.2.2.2.2.2.2.2.2.2.2.2.2.2.1
        have e12 : (12 : Int32) * nI r + nI i = nI (12 * r + i) := by rw [show (12 : Int32) = nI 12 from rfl, pk_mul, nI_add]
        have put : ∀ t2 v, Sm sMq τ t2 → MM t2 np nr W H ru pg rd nl F lw w S jl acts pw → (∀ k, gI t2 330 k = gI t 330 k) → (shP pg w x i = true → v = nI (shL lw np nr ru pg rd w r i)) → ∃ a', (if ixB (nI (12 * r + i)) (ln 330) = true then some (Sum.inl (nI (i + 1), sI t2 330 (Int32.toNatClampNeg (nI (12 * r + i))) v)) else none) = some (Sum.inl a' : (Int32 × Mm) ⊕ Mm) ∧ (a'.1 = nI (i + 1) ∧ Sm sMq τ a'.2 ∧ MM a'.2 np nr W H ru pg rd nl F lw w S jl acts pw ∧ ∀ r' p, (r' < r ∧ p < np ∨ r' = r ∧ p < i + 1) → shP pg w x p = true → gI a'.2 330 (12 * r' + p) = nI (shL lw np nr ru pg rd w r' p)) := by
          intro t2 v h1 h2 h3 h4
          have s2 : Sm (fun c (_ : Nat) => c == 330) t2 (sI t2 330 (12 * r + i) v) := Sm.rf.sI rfl
          rw [ln16.2.2.2.2, if_pos (ixT (by omega) (by omega)), clT (by omega)]
          refine ⟨_, rfl, rfl, h1.tr (s2.mono s330), h2.mq (s2.mono s330) (h2.1.row s2 (fun c k hc => by simp only [beq_iff_eq] at hc; omega)), fun r' p hz hp => ?_⟩
          dsimp only
          rw [gI_sI]
          by_cases z : r' = r ∧ p = i
          · obtain ⟨rfl, rfl⟩ := z
            rw [if_pos ⟨rfl, rfl⟩]; exact h4 hp
          · rw [if_neg (by omega), h3]
            exact e4 r' p (by omega) hp
        unfold fX10_share_l49 fX10_share_b112 fX10_share_b113
        simp only [e3.1.hm.2.2.1, if_neg e7, r48, Option.bind_some, m_isOf g e3.1.hm hi, e3.r33, i2p, ln323, ixT (show 2 * i < 351 by omega) (by omega), if_true, clT (show 2 * i < 2147483648 by omega), e3.2.1 (2 * i) (by omega), p1, i4p, p2, clT (show 4 * i < 2147483648 by omega), p3, e12, nI_1]
        by_cases q1 : pg (4 * i + 2) = x
        · simp only [if_pos q1, if_neg z1]
          by_cases q2 : w (2 * i) ≤ 0
          · simp only [if_pos q2]
            exact put t 0 e2 e3 (fun _ => rfl) (fun z => absurd q2 (shP_iff.mp z).1)
          · simp only [if_neg q2]
            obtain ⟨⟨c, hc, ec⟩, -⟩ := g.2.2.2.2.2.2.2.2.1 i hi
            obtain ⟨t2, k1, k2, k3⟩ := m_lossAt (c := c) g e3.1 (Or.inl rfl) e3.2.1 hB hD hr (by omega)
            rw [ec, k1, bnd2_some]
            refine put t2 _ (e2.tr k2.mq) (e3.mq k2.mq k3) (fun k => k2.1 _ _ rfl) (fun _ => ?_)
            have := shL_eq (lw := lw) g hB hr hi
            rw [ec] at this
            exact this
        · simp only [if_neg q1, if_true]
          exact put t 0 e2 e3 (fun _ => rfl) (fun z => absurd (shP_iff.mp z).2 q1)
      · rintro ⟨j, t⟩ ⟨e1, e2, e3, e4⟩
        simp only at e1 e2 e3 e4
        subst e1
        unfold fX10_share_l49
        rw [e3.1.hm.2.2.1, if_pos (Int32.le_refl _)]
        exact ⟨_, rfl, e2, e3, fun r' p h1 h2 => e4 r' p (by omega)⟩
    obtain ⟨t', k1, k2, k3, k4⟩ := inn
    unfold fX10_share_l38
    rw [e3.1.hm.2.2.2.1, if_neg e6, k1]
    exact ⟨_, rfl, nI_1 r, k2, k3, k4⟩
  · rintro ⟨j, t⟩ ⟨e1, e2, e3, e4⟩
    simp only at e1 e2 e3 e4
    subst e1
    unfold fX10_share_l38
    rw [e3.1.hm.2.2.2.1, if_pos (Int32.le_refl _)]
    exact ⟨_, rfl, e2, e3, e4⟩
theorem Q_share (h : CM np nr W H ru pg rd nl F lw D w S jl acts pw σ) (hD : D < 2147483000) (hnp : 0 < np) (x y : Int32) : WQ np nr W H ru pg rd nl F lw σ (fX9_share 0 x y σ) (fX10_share 310 x y) := by
  have g := h.g
  have g1 := g.1
  have g2 := g.2.1
  refine WQ.two (m' := fun s => if (gI s 310 27) = 0 then some ((-1), s) else (fX10_isIn (Int32.toInt64 x) 0 4 s).bind fun vk2 => if vk2 = 0 then some ((-1), s) else (fX10_isIn (Int32.toInt64 y) 0 1 s).bind fun vk4 => if vk4 = 0 then some ((-1), s) else (fX10_share_w38 310 x y 0 s).bind (fun o19 => (fun so19 => (gX10s 100 310 x 0 0 0 0 (sI (sI so19 310 46 0) 310 47 1000000)).bind fun sk20 => if y = 0 then some ((gI sk20 310 46), sk20) else some ((gI sk20 310 47), sk20)) o19)) h (fun s => rfl) (fun τ hM => ?_)
  have non : ∃ v σ' τ', some ((-1 : Int32), σ) = some (v, σ') ∧ some ((-1 : Int32), τ) = some (v, τ') ∧ Sm sCq σ σ' ∧ Sm sMq τ τ' ∧ ME τ' np nr W H ru pg rd nl F lw := ⟨_, _, _, rfl, rfl, Sm.rf, Sm.rf, hM.1⟩
  unfold fX9_share
  simp only [h.rf.hall, Option.bind_some, c_isOpen g h.hc, if_pos hnp, if_neg z1, hM.1.hm.2.2.1, if_neg (nI_ne0 hnp (show np < 2147483648 by omega))]
  rcases in4 (x := x) (n := 4) with hx | hx
  · rw [isBook_t hx, show fX10_isIn (Int32.toInt64 x) 0 4 τ = some 1 from isInT (a := 0) (b := 4) hx (by omega)]
    simp only [Option.bind_some, if_neg z1]
    rcases in4 (x := y) (n := 1) with hy | hy
    · rw [c01_t hy, show fX10_isIn (Int32.toInt64 y) 0 1 τ = some 1 from isInT (a := 0) (b := 1) hy (by omega)]
      obtain ⟨b, s1, C, a1, a2, a3, a4, a5⟩ := C_findShare h.1 h.wu x
      obtain ⟨t1, b1, b2, b3, b4⟩ := M_losses (lw := lw) g h.wu (by omega) hM x y
      simp only [Option.bind_some, if_neg z1, h.rf.fin, h.rf.now, a1, bnd2_some, b1]
      have s2 : Sm sSh t1 (sI (sI t1 310 46 0) 310 47 1000000) := (Sm.rf.sI rfl).sI rfl
      have hM2 := b3.sh s2
      have zz : ∀ n, gm (fun _ => 0) n = 0 ∧ gc (shL lw np nr ru pg rd w) (fun _ => 0) n = 0 := by
        intro n
        induction n with
        | zero => exact ⟨rfl, rfl⟩
        | succ n ih => rw [gm_s, gc_s, if_pos rfl, if_pos rfl]; exact ih
      obtain ⟨M', C', t2, c1, c2, c3, c4, c5, c6, c7, c8, c9⟩ := X_share (D := D) (lw := lw) g h.wu x 100 0 (fun _ => 0) (fun _ => false) _ 0 1000000 (by omega) (by omega) hM2 (fun r p hr hp hz => by rw [s2.1 _ _ rfl]; exact b4 r p hr hp hz) Asg.zero (fun _ _ => rfl) (fun p hp => by simp) (by omega) (Nat.le_refl _) (by simp [gI_sI]; rfl) (by simp [gI_sI]; rfl)
      rw [(zz nr).1, (zz nr).2, (mk_0 (fun _ => false) (show np ≤ 31 by omega)).mpr (fun _ _ => rfl)] at c1
      have c1' : gX10s 100 310 x 0 0 0 0 (sI (sI t1 310 46 0) 310 47 1000000) = some t2 := c1
      have hO : Opt nr np (shF ru pg rd w x) (shL lw np nr ru pg rd w) M' C' := by
        refine ⟨?_, fun h' hh => c8 h' hh (fun t ht => by omega)⟩
        rcases c9 with ⟨rfl, rfl⟩ | c9
        · have := c8 _ Asg.zero (fun t ht => by omega)
          rw [(zz nr).1, (zz nr).2] at this
          unfold cov at this
          omega
        · exact c9
      obtain ⟨eM, eC⟩ := a5.uniq hO
      have m2 : Sm sMq τ t2 := b2.tr ((s2.tr c2).mono (fun c k hc => by
        unfold sMq at hc; unfold sSh
        simp only [Bool.or_eq_false_iff, Bool.and_eq_false_imp, beq_iff_eq, beq_eq_false_iff_ne, decide_eq_true_eq, decide_eq_false_iff_not, ne_eq] at hc ⊢
        intro z
        have := hc.2 z
        omega))
      rw [c1']
      simp only [Option.bind_some]
      by_cases q : y = 0
      · simp only [if_pos q, bc_f, Option.bind_some, bc_tab b (by omega), c5]
        exact ⟨_, _, _, rfl, by rw [eM], a2, m2, (hM2.sh c2).1⟩
      · have hCs := h.1.cq a2
        obtain ⟨_, _, _, f3, _⟩ := fin0 hCs.rf
        unfold fX0_shareLoss
        simp only [if_neg q, hCs.rf.fin, Option.bind_some, if_neg (nI_pos (show b < 2147483648 by omega)), f3, ln16.2.2.2.1, if_neg (show ¬ nI 64 ≤ nI b from fun z => absurd ((leT (by omega) (by omega)).mp z) (by omega)), ixT a3 (show 64 ≤ 2147483648 by omega), if_true, clT (show b < 2147483648 by omega), a4, c6]
        exact ⟨_, _, _, rfl, by rw [eC], a2, m2, (hM2.sh c2).1⟩
    · rw [c01_f hy, show fX10_isIn (Int32.toInt64 y) 0 1 τ = some 0 from isInF (a := 0) (b := 1) hy (by omega) (by omega)]
      exact non
  · rw [isBook_f hx, show fX10_isIn (Int32.toInt64 x) 0 4 τ = some 0 from isInF (a := 0) (b := 4) hx (by omega) (by omega)]
    exact non
end Share
