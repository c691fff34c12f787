/-! the class's references, its past, its journal -/
def isSnow (b : Nat) : Prop := (17 ≤ b ∧ b ≤ 42 ∧ (b - 17) % 5 = 0) ∨ b = 89 ∨ b = 94 ∨ (101 ≤ b ∧ b ≤ 296 ∧ (b - 101) % 5 = 0) ∨ b = 303
def r0T (k : Nat) : Nat := [1, 3, 7, 11, 13, 47, 68, 89, 94, 99, 301, 303, 308].getD k 0
def RF (σ : Mm) : Prop :=
  (∀ k, k < 13 → gR σ 0 k = some (r0T k)) ∧ gR σ 1 0 = some 2 ∧ (∀ b, b = 3 ∨ b = 7 → gR σ b 0 = some 1 ∧ gR σ b 1 = some (b + 1) ∧ gR σ b 2 = some (b + 2) ∧ gR σ b 3 = some (b + 3)) ∧ WR σ ∧
  (gR σ 13 0 = some 3 ∧ gR σ 13 1 = some 11 ∧ gR σ 13 2 = some 14 ∧ gR σ 13 3 = some 15 ∧ gR σ 13 4 = some 334 ∧ gR σ 13 5 = some 16 ∧ ∀ j, j < 6 → gR σ 14 j = some (17 + 5 * j)) ∧
  (∀ b, isSnow b → SR σ b) ∧
  (∀ j, j < 5 → gR σ 47 j = some (48 + 4 * j) ∧ gR σ (48 + 4 * j) 0 = some 1 ∧ gR σ (48 + 4 * j) 1 = some (49 + 4 * j) ∧ gR σ (48 + 4 * j) 2 = some (50 + 4 * j) ∧ gR σ (48 + 4 * j) 3 = some (51 + 4 * j)) ∧
  (∀ j, j < 5 → gR σ 68 j = some (69 + 4 * j) ∧ gR σ (69 + 4 * j) 0 = some 1 ∧ gR σ (69 + 4 * j) 1 = some (70 + 4 * j) ∧ gR σ (69 + 4 * j) 2 = some (71 + 4 * j) ∧ gR σ (69 + 4 * j) 3 = some (72 + 4 * j)) ∧
  (gR σ 99 0 = some 100 ∧ ∀ j, j < 40 → gR σ 100 j = some (101 + 5 * j)) ∧ gR σ 301 0 = some 302 ∧ gR σ 308 0 = some 309
theorem RF.keep {σ σ' : Mm} (h : RF σ) (s : ∀ c k, c < 310 → ¬ (c = 11 ∧ k = 2) → gR σ' c k = gR σ c k) : RF σ' := by
  obtain ⟨h1, h2, h3, h4, ⟨h5, h6, h7, h8, h9, h9b, h10⟩, h11, h12, h13, ⟨h14, h15⟩, h16, h17⟩ := h
  refine ⟨fun k hk => by rw [s _ _ (by omega) (by omega)]; exact h1 k hk, by rw [s _ _ (by omega) (by omega)]; exact h2, fun b hb => ?_, ⟨by rw [s _ _ (by omega) (by omega)]; exact h4.1, by rw [s _ _ (by omega) (by omega)]; exact h4.2⟩, ⟨by rw [s _ _ (by omega) (by omega)]; exact h5, by rw [s _ _ (by omega) (by omega)]; exact h6, by rw [s _ _ (by omega) (by omega)]; exact h7, by rw [s _ _ (by omega) (by omega)]; exact h8, by rw [s _ _ (by omega) (by omega)]; exact h9, by rw [s _ _ (by omega) (by omega)]; exact h9b, fun j hj => by rw [s _ _ (by omega) (by omega)]; exact h10 j hj⟩, fun b hb => ?_, fun j hj => ?_, fun j hj => ?_, ⟨by rw [s _ _ (by omega) (by omega)]; exact h14, fun j hj => by rw [s _ _ (by omega) (by omega)]; exact h15 j hj⟩, by rw [s _ _ (by omega) (by omega)]; exact h16, by rw [s _ _ (by omega) (by omega)]; exact h17⟩
  · obtain ⟨a1, a2, a3, a4⟩ := h3 b hb
    rw [s _ _ (by omega) (by omega), s _ _ (by omega) (by omega), s _ _ (by omega) (by omega), s _ _ (by omega) (by omega)]
    exact ⟨a1, a2, a3, a4⟩
  · obtain ⟨a1, a2, a3, a4, a5⟩ := h11 b hb
    unfold isSnow at hb
    refine ⟨by rw [s _ _ (by omega) (by omega)]; exact a1, by rw [s _ _ (by omega) (by omega)]; exact a2, by rw [s _ _ (by omega) (by omega)]; exact a3, by rw [s _ _ (by omega) (by omega)]; exact a4, a5⟩
  · obtain ⟨a1, a2, a3, a4, a5⟩ := h12 j hj
    rw [s _ _ (by omega) (by omega), s _ _ (by omega) (by omega), s _ _ (by omega) (by omega), s _ _ (by omega) (by omega), s _ _ (by omega) (by omega)]
    exact ⟨a1, a2, a3, a4, a5⟩
  · obtain ⟨a1, a2, a3, a4, a5⟩ := h13 j hj
    rw [s _ _ (by omega) (by omega), s _ _ (by omega) (by omega), s _ _ (by omega) (by omega), s _ _ (by omega) (by omega), s _ _ (by omega) (by omega)]
    exact ⟨a1, a2, a3, a4, a5⟩
theorem RF.sm {S : Nat → Nat → Bool} {σ σ' : Mm} (h : RF σ) (s : Sm S σ σ') : RF σ' := h.keep (fun c k hc _ => s.2.2 c k (by omega))
section RFp
variable {σ : Mm}
theorem RF.f0 (h : RF σ) : gR σ 0 0 = some 1 ∧ gR σ 0 1 = some 3 ∧ gR σ 0 2 = some 7 ∧ gR σ 0 3 = some 11 ∧ gR σ 0 4 = some 13 ∧ gR σ 0 5 = some 47 ∧ gR σ 0 6 = some 68 ∧ gR σ 0 7 = some 89 ∧ gR σ 0 8 = some 94 ∧ gR σ 0 9 = some 99 ∧ gR σ 0 10 = some 301 ∧ gR σ 0 11 = some 303 ∧ gR σ 0 12 = some 308 :=
  ⟨h.1 0 (by omega), h.1 1 (by omega), h.1 2 (by omega), h.1 3 (by omega), h.1 4 (by omega), h.1 5 (by omega), h.1 6 (by omega), h.1 7 (by omega), h.1 8 (by omega), h.1 9 (by omega), h.1 10 (by omega), h.1 11 (by omega), h.1 12 (by omega)⟩
theorem RF.tape (h : RF σ) : gR σ 0 0 = some 1 := h.f0.1
theorem RF.hall (h : RF σ) : gR σ 0 1 = some 3 := h.f0.2.1
theorem RF.next (h : RF σ) : gR σ 0 2 = some 7 := h.f0.2.2.1
theorem RF.win (h : RF σ) : gR σ 0 3 = some 11 := h.f0.2.2.2.1
theorem RF.fin (h : RF σ) : gR σ 0 4 = some 13 := h.f0.2.2.2.2.1
theorem RF.laws (h : RF σ) : gR σ 0 5 = some 47 := h.f0.2.2.2.2.2.1
theorem RF.plans (h : RF σ) : gR σ 0 6 = some 68 := h.f0.2.2.2.2.2.2.1
theorem RF.now (h : RF σ) : gR σ 0 7 = some 89 := h.f0.2.2.2.2.2.2.2.1
theorem RF.apart (h : RF σ) : gR σ 0 8 = some 94 := h.f0.2.2.2.2.2.2.2.2.1
theorem RF.past (h : RF σ) : gR σ 0 9 = some 99 := h.f0.2.2.2.2.2.2.2.2.2.1
theorem RF.jou (h : RF σ) : gR σ 0 10 = some 301 := h.f0.2.2.2.2.2.2.2.2.2.2.1
theorem RF.imS (h : RF σ) : gR σ 0 11 = some 303 := h.f0.2.2.2.2.2.2.2.2.2.2.2.1
theorem RF.imJ (h : RF σ) : gR σ 0 12 = some 308 := h.f0.2.2.2.2.2.2.2.2.2.2.2.2
theorem RF.wr (h : RF σ) : WR σ := h.2.2.2.1
theorem RF.sr (h : RF σ) {b : Nat} (hb : isSnow b) : SR σ b := h.2.2.2.2.2.1 b hb
theorem RF.sr89 (h : RF σ) : SR σ 89 := h.sr (by unfold isSnow; omega)
theorem RF.sr94 (h : RF σ) : SR σ 94 := h.sr (by unfold isSnow; omega)
theorem RF.p0 (h : RF σ) : gR σ 99 0 = some 100 := h.2.2.2.2.2.2.2.2.1.1
theorem RF.pj (h : RF σ) {j : Nat} (hj : j < 40) : gR σ 100 j = some (101 + 5 * j) := h.2.2.2.2.2.2.2.2.1.2 j hj
theorem RF.j1 (h : RF σ) : gR σ 301 0 = some 302 := h.2.2.2.2.2.2.2.2.2.1
theorem RF.j2 (h : RF σ) : gR σ 308 0 = some 309 := h.2.2.2.2.2.2.2.2.2.2
end RFp
theorem Sm.sA {S : Nat → Nat → Bool} {a b : Mm} {c : Nat} {f : Nat → Int32} (h : Sm S a b) (hs : ∀ k, S c k = true) : Sm S a (sA b c f) := by
  refine ⟨fun x j hx => ?_, h.2.1, h.2.2⟩
  rw [gI_sA, if_neg (by rintro rfl; rw [hs] at hx; cases hx)]
  exact h.1 x j hx
def cp0 (f g : Nat → Int32) (n : Nat) : Nat → Int32 := fun k => if k < n then f k else g k
theorem cpy0 (f g : Nat → Int32) {n : Nat} (hn : n < 2147483648) : va_cpy f g (Int32.toNatClampNeg 0) (Int32.toNatClampNeg 0) (Int32.toNatClampNeg (nI n)) = cp0 f g n := by
  rw [clT hn, show Int32.toNatClampNeg 0 = 0 from rfl]
  funext k
  unfold va_cpy cp0
  by_cases q : k < n
  · rw [if_pos (by omega), if_pos q]; congr 1; omega
  · rw [if_neg (by omega), if_neg q]
theorem cpB0 {n : Nat} (hn : n < 2147483648) : cpB 0 0 (nI n) n n = true := by
  unfold cpB
  refine decide_eq_true ⟨by decide, by decide, nI_pos (by omega), ?_, ?_⟩ <;> rw [clT hn, show Int32.toNatClampNeg 0 = 0 from rfl] <;> omega
section Take
variable {σ : Mm} {s d : Nat} {w : Nat → Int32}
theorem c_takeFrom (hd : SR σ d) (hs : SR σ s) (h : SC σ s w) (hne : d + 5 ≤ s ∨ s + 5 ≤ d) : ∃ σ', fX6_takeFrom d s σ = some σ' ∧ Sm (sS d) σ σ' ∧ SC σ' d w := by
  obtain ⟨d1, d2, d3, d4, l1, l2, l3, l4⟩ := hd
  obtain ⟨s1, s2, s3, s4, m1, m2, m3, m4⟩ := hs
  unfold fX6_takeFrom
  rw [s1, Option.bind_some, d1, Option.bind_some, l1, m1, if_pos (cpB0 (by omega)), s2, Option.bind_some, d2, Option.bind_some, l2, m2, if_pos (cpB0 (by omega)), s3, Option.bind_some, d3, Option.bind_some, l3, m3, if_pos (cpB0 (by omega)), s4, Option.bind_some, d4, Option.bind_some, l4, m4, if_pos (cpB0 (by omega))]
  simp only [cpy0 _ _ (show 12 < 2147483648 by omega), cpy0 _ _ (show 6 < 2147483648 by omega), cpy0 _ _ (show 72 < 2147483648 by omega)]
  have hS : ∀ j k, j ≤ 4 → sS d (d + j) k = true := fun j k hj => by unfold sS; simp; omega
  generalize h1 : sA σ (d + 1) (cp0 (gI σ (s + 1)) (gI σ (d + 1)) 12) = τ1
  generalize h2 : sA τ1 (d + 2) (cp0 (gI τ1 (s + 2)) (gI τ1 (d + 2)) 12) = τ2
  generalize h3 : sA τ2 (d + 3) (cp0 (gI τ2 (s + 3)) (gI τ2 (d + 3)) 6) = τ3
  generalize h4 : sA τ3 (d + 4) (cp0 (gI τ3 (s + 4)) (gI τ3 (d + 4)) 72) = τ4
  have a1 : ∀ c k, gI τ1 c k = if c = d + 1 then cp0 (gI σ (s + 1)) (gI σ (d + 1)) 12 k else gI σ c k := fun c k => by rw [← h1, gI_sA]
  have a2 : ∀ c k, gI τ2 c k = if c = d + 2 then cp0 (gI τ1 (s + 2)) (gI τ1 (d + 2)) 12 k else gI τ1 c k := fun c k => by rw [← h2, gI_sA]
  have a3 : ∀ c k, gI τ3 c k = if c = d + 3 then cp0 (gI τ2 (s + 3)) (gI τ2 (d + 3)) 6 k else gI τ2 c k := fun c k => by rw [← h3, gI_sA]
  have a4 : ∀ c k, gI τ4 c k = if c = d + 4 then cp0 (gI τ3 (s + 4)) (gI τ3 (d + 4)) 72 k else gI τ3 c k := fun c k => by rw [← h4, gI_sA]
  have b4 : Sm (sS d) σ τ4 := by
    rw [← h4, ← h3, ← h2, ← h1]
    exact (((Sm.rf.sA (fun k => hS 1 k (by omega))).sA (fun k => hS 2 k (by omega))).sA (fun k => hS 3 k (by omega))).sA (fun k => hS 4 k (by omega))
  have es : ∀ j k, j ≤ 4 → gI τ4 (s + j) k = gI σ (s + j) k := fun j k hj => b4.1 _ _ (by unfold sS; simp; omega)
  refine ⟨_, rfl, ((b4.sI (hS 0 4 (by omega))).sI (hS 0 5 (by omega))).sI (hS 0 6 (by omega)), ?_⟩
  obtain ⟨e1, e2, e3, e4, e5, e6, D, hD, e7, e8⟩ := h
  have s0 := es 0
  rw [Nat.add_zero] at s0
  refine ⟨fun p hp => ?_, fun p hp => ?_, fun r hr => ?_, fun r p hr hp => ?_, ?_, ?_, D, hD, ?_, e8⟩
  · simp only [gI_sI]
    rw [if_neg (by omega), if_neg (by omega), if_neg (by omega), a4, if_neg (by omega), a3, if_neg (by omega), a2, if_neg (by omega), a1, if_pos rfl]
    unfold cp0; rw [if_pos hp]; exact e1 p hp
  · simp only [gI_sI]
    rw [if_neg (by omega), if_neg (by omega), if_neg (by omega), a4, if_neg (by omega), a3, if_neg (by omega), a2, if_pos rfl]
    unfold cp0; rw [if_pos hp, a1, if_neg (by omega)]; exact e2 p hp
  · simp only [gI_sI]
    rw [if_neg (by omega), if_neg (by omega), if_neg (by omega), a4, if_neg (by omega), a3, if_pos rfl]
    unfold cp0; rw [if_pos hr, a2, if_neg (by omega), a1, if_neg (by omega)]; exact e3 r hr
  · simp only [gI_sI]
    rw [if_neg (by omega), if_neg (by omega), if_neg (by omega), a4, if_pos rfl]
    unfold cp0; rw [if_pos (by omega), a3, if_neg (by omega), a2, if_neg (by omega), a1, if_neg (by omega)]; exact e4 r p hr hp
  · rw [gI_sI, if_neg (by omega), gI_sI, if_pos ⟨rfl, rfl⟩, gI_sI, if_neg (by omega), s0 5 (by omega)]; exact e5
  · rw [gI_sI, if_pos ⟨rfl, rfl⟩, gI_sI, if_neg (by omega), gI_sI, if_neg (by omega), s0 6 (by omega)]; exact e6
  · rw [gI_sI, if_neg (by omega), gI_sI, if_neg (by omega), gI_sI, if_pos ⟨rfl, rfl⟩, s0 4 (by omega)]; exact e7
end Take
def JC (σ : Mm) (b S : Nat) (jl : Nat → Nat → Int32) : Prop := S ≤ 100 ∧ gI σ b 1 = nI S ∧ ∃ T, T < 100 ∧ gI σ b 2 = nI T ∧ ∀ i j, i < S → j < 4 → gI σ (b + 1) (4 * ((T + 99 - i) % 100) + j) = jl i j
theorem JC.sm {S : Nat → Nat → Bool} {σ σ' : Mm} {b n : Nat} {jl : Nat → Nat → Int32} (h : JC σ b n jl) (s : Sm S σ σ') (hs : ∀ k, S b k = false ∧ S (b + 1) k = false) : JC σ' b n jl := by
  obtain ⟨h1, h2, T, h3, h4, h5⟩ := h
  exact ⟨h1, by rw [s.1 _ _ (hs _).1]; exact h2, T, h3, by rw [s.1 _ _ (hs _).1]; exact h4, fun i j hi hj => by rw [s.1 _ _ (hs _).2]; exact h5 i j hi hj⟩
def PC (σ : Mm) (acts : Nat) (pw : Nat → Nat → Int32) : Prop := acts ≤ 40 ∧ gI σ 99 1 = nI acts ∧ ∃ T, T < 40 ∧ gI σ 99 2 = nI T ∧ ∀ u, u < acts → SC σ (101 + 5 * ((T + 39 - u) % 40)) (pw u)
def sP (c _k : Nat) : Bool := c == 99 || (decide (101 ≤ c) && decide (c ≤ 300))
theorem PC.sm {S : Nat → Nat → Bool} {σ σ' : Mm} {acts : Nat} {pw : Nat → Nat → Int32} (h : PC σ acts pw) (s : Sm S σ σ') (hs : ∀ c k, sP c k = true → S c k = false) : PC σ' acts pw := by
  obtain ⟨h1, h2, T, h3, h4, h5⟩ := h
  exact ⟨h1, by rw [s.1 _ _ (hs _ _ rfl)]; exact h2, T, h3, by rw [s.1 _ _ (hs _ _ rfl)]; exact h4, fun u hu => (h5 u hu).sm s (fun j k hj => hs _ _ (by unfold sP; simp; omega))⟩
section Jou
variable {σ : Mm} {b S : Nat} {jl : Nat → Nat → Int32}
theorem remN {a d : Nat} (ha : a < 2147483648) (h0 : 0 < d) (hd : d < 2147483648) : remI (nI a) (nI d) = nI (a % d) := pk_rem (by omega) h0 (by omega)
def sJb (b c _k : Nat) : Bool := c == b || c == b + 1
theorem c_jadd (hr : gR σ b 0 = some (b + 1)) (hl : ln (b + 1) = 400) (h : JC σ b S jl) (x y z t : Int32) : ∃ σ', fX2_add b x y z t σ = some σ' ∧ Sm (sJb b) σ σ' ∧ JC σ' b (min 100 (S + 1)) (sJ jl x y z t) := by
  obtain ⟨h1, h2, T, h3, h4, h5⟩ := h
  unfold fX2_add
  have e1 : nI T * 4 = nI (4 * T) := by rw [show (4 : Int32) = nI 4 from rfl, pk_mul, Nat.mul_comm]
  have e2 : nI (4 * T) + 1 = nI (4 * T + 1) := nI_1 _
  have e3 : nI (4 * T) + 2 = nI (4 * T + 2) := by rw [show (2 : Int32) = nI 2 from rfl, nI_add]
  have e4 : nI (4 * T) + 3 = nI (4 * T + 3) := by rw [show (3 : Int32) = nI 3 from rfl, nI_add]
  have e5 : nI (4 * T) + 4 = nI (4 * T + 4) := by rw [show (4 : Int32) = nI 4 from rfl, nI_add]
  rw [h4, e1, if_neg (nI_pos (by omega)), hr, Option.bind_some, hl, e5, if_pos ((leT (by omega) (by omega)).mpr (by omega)), if_pos (ixT (by omega) (by omega)), e2, if_pos (ixT (by omega) (by omega)), e3, if_pos (ixT (by omega) (by omega)), e4, if_pos (ixT (by omega) (by omega)), clT (by omega), clT (by omega), clT (by omega), clT (by omega)]
  have t1 : ∀ k, sJb b b k = true := fun k => by unfold sJb; simp
  have t2 : ∀ k, sJb b (b + 1) k = true := fun k => by unfold sJb; simp
  generalize hτ : sI (sI (sI (sI σ (b + 1) (4 * T) x) (b + 1) (4 * T + 1) y) (b + 1) (4 * T + 2) z) (b + 1) (4 * T + 3) t = τ
  have s1 : Sm (sJb b) σ τ := by rw [← hτ]; exact (((Sm.rf.sI (t2 _)).sI (t2 _)).sI (t2 _)).sI (t2 _)
  have v2 : gI τ b 2 = nI T := by rw [← hτ]; simp only [gI_sI]; rw [if_neg (by omega), if_neg (by omega), if_neg (by omega), if_neg (by omega)]; exact h4
  have v1 : gI τ b 1 = nI S := by rw [← hτ]; simp only [gI_sI]; rw [if_neg (by omega), if_neg (by omega), if_neg (by omega), if_neg (by omega)]; exact h2
  rw [v2, nI_1, show (100 : Int32) = nI 100 from rfl, remN (by omega) (by omega) (by omega), gI_sI, if_neg (by omega), v1, nI_1, minN _ _ (by omega) (by omega)]
  refine ⟨_, rfl, (s1.sI (t1 _)).sI (t1 _), by omega, by rw [gI_sI, if_pos ⟨rfl, rfl⟩], (T + 1) % 100, by omega, by rw [gI_sI, if_neg (by omega), gI_sI, if_pos ⟨rfl, rfl⟩], fun i j hi hj => ?_⟩
  rw [gI_sI, if_neg (by omega), gI_sI, if_neg (by omega), ← hτ]
  unfold sJ
  by_cases q : i = 0
  · subst q
    rw [if_pos rfl, show ((T + 1) % 100 + 99 - 0) % 100 = T by omega]
    simp only [gI_sI]
    unfold row4
    have : j = 0 ∨ j = 1 ∨ j = 2 ∨ j = 3 := by omega
    rcases this with rfl | rfl | rfl | rfl <;> simp
  · rw [if_neg q]
    simp only [gI_sI]
    rw [if_neg (by omega), if_neg (by omega), if_neg (by omega), if_neg (by omega), show ((T + 1) % 100 + 99 - i) % 100 = (T + 99 - (i - 1)) % 100 by omega]
    exact h5 (i - 1) j (by omega) hj
theorem c_jdrop (h : JC σ b S jl) (h0 : 0 < S) : ∃ σ', fX2_dropLatest b σ = some σ' ∧ Sm (sJb b) σ σ' ∧ JC σ' b (S - 1) (fun i j => jl (i + 1) j) := by
  obtain ⟨h1, h2, T, h3, h4, h5⟩ := h
  unfold fX2_dropLatest
  have t1 : ∀ k, sJb b b k = true := fun k => by unfold sJb; simp
  rw [h2, if_neg (by intro z; have := (leT (b := 0) (by omega) (by omega)).mp z; omega), gI_sI, if_neg (by omega), h4, show (100 : Int32) = nI 100 from rfl, nI_add, show (1 : Int32) = nI 1 from rfl, pk_sub (by omega), pk_sub (by omega), remN (by omega) (by omega) (by omega)]
  refine ⟨_, rfl, (Sm.rf.sI (t1 _)).sI (t1 _), by omega, by rw [gI_sI, if_neg (by omega), gI_sI, if_pos ⟨rfl, rfl⟩], (T + 100 - 1) % 100, by omega, by rw [gI_sI, if_pos ⟨rfl, rfl⟩], fun i j hi hj => ?_⟩
  rw [gI_sI, if_neg (by omega), gI_sI, if_neg (by omega), show ((T + 100 - 1) % 100 + 99 - i) % 100 = (T + 99 - (i + 1)) % 100 by omega]
  exact h5 (i + 1) j (by omega) hj
theorem c_told (h : JC σ b S jl) : fX2_told b σ = some (nI (min S 60)) := by
  have := h.1
  unfold fX2_told
  rw [h.2.1, show (60 : Int32) = nI 60 from rfl, minN _ _ (by omega) (by omega)]
theorem c_entry (hr : gR σ b 0 = some (b + 1)) (hl : ln (b + 1) = 400) (h : JC σ b S jl) {i j : Nat} (hi : i < min S 60) (hj : j < 4) : fX2_entry b (nI i) (nI j) σ = some (jl i j) := by
  have ht := c_told h
  obtain ⟨h1, h2, T, h3, h4, h5⟩ := h
  unfold fX2_entry
  have e : remI (nI T + 100 - 1 - nI i) 100 = nI ((T + 99 - i) % 100) := by
    rw [show (100 : Int32) = nI 100 from rfl, nI_add, show (1 : Int32) = nI 1 from rfl, pk_sub (by omega), pk_sub (by omega), remN (by omega) (by omega) (by omega), show T + 100 - 1 - i = T + 99 - i by omega]
  have e2 : nI ((T + 99 - i) % 100) * 4 + nI j = nI (4 * ((T + 99 - i) % 100) + j) := by rw [show (4 : Int32) = nI 4 from rfl, pk_mul, nI_add, Nat.mul_comm]
  rw [if_neg (nI_pos (by omega)), ht, Option.bind_some, if_neg (by intro z; have := (leT (by omega) (by omega)).mp z; omega), if_neg (nI_pos (by omega)), if_pos (show nI j < 4 from (ltT (b := 4) (by omega) (by omega)).mpr hj), h4, e, if_pos (nI_pos' (by omega)), hr, Option.bind_some, hl, e2, if_pos (ixT (by omega) (by omega)), clT (by omega), h5 i j (by omega) hj]
theorem c_entry_out (h : JC σ b S jl) {x y : Int32} (hxy : (¬ ∃ i, i < min S 60 ∧ x = nI i) ∨ ¬ ∃ j, j < 4 ∧ y = nI j) : fX2_entry b x y σ = some (-1000000) := by
  have ht := c_told h
  unfold fX2_entry
  rw [ht, Option.bind_some]
  by_cases q : x < 0
  · rw [if_pos q]
  · rw [if_neg q]
    by_cases q2 : nI (min S 60) ≤ x
    · rw [if_pos q2]
    · rw [if_neg q2]
      obtain ⟨i, hi, rfl⟩ := nI_of q
      have hi2 : i < min S 60 := by
        by_cases z : i < min S 60
        · exact z
        · exact absurd ((leT (by omega) (by omega)).mpr (by omega)) q2
      have hy := hxy.resolve_left (fun z => z ⟨i, hi2, rfl⟩)
      rcases i32_out (by omega) hy with h0 | ⟨h0, h9⟩
      · rw [if_pos h0]
      · rw [if_neg h0, if_neg (fun z => absurd h9 (by rw [Int32.not_le]; exact z))]
end Jou
