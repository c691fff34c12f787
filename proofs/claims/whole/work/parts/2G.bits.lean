/-! sets as bits -/
def cntB (P : Nat → Bool) : Nat → Nat
  | 0 => 0
  | n + 1 => if P n = true then cntB P n + 1 else cntB P n
def popN : Nat → Nat → Nat
  | 0, _ => 0
  | n + 1, x => x % 2 + popN n (x / 2)
def BCf (x : Int32) : Int32 := (fJ6_bitCount_0f7a4 x (fun _ _ => 0, fun _ _ => 0, fun _ _ => none)).getD 0
theorem bc_f (x : Int32) (σ : Mm) : fJ6_bitCount_0f7a4 x σ = some (BCf x) := rfl
theorem bc_tab2 : ∀ x, x < 64 → ∀ y, y < 64 → BCf (nI (64 * x + y)) = nI (popN 12 (64 * x + y)) := by decide +kernel
theorem bc_tab (x : Nat) (h : x < 4096) : BCf (nI x) = nI (popN 12 x) := by
  have := bc_tab2 (x / 64) (by omega) (x % 64) (by omega)
  rwa [show 64 * (x / 64) + x % 64 = x by omega] at this
theorem shl_tab : ∀ n, n < 12 → shlI 1 (nI n) = nI (2 ^ n) := by decide +kernel
theorem or_tab : ∀ n, n < 12 → ∀ a, a < 2 ^ n → nI a ||| nI (2 ^ n) = nI (a + 2 ^ n) := by decide +kernel
theorem pop_tab : ∀ n, n < 12 → ∀ a, a < 2 ^ n → popN 12 (a + 2 ^ n) = popN 12 a + 1 := by decide +kernel
theorem mk_succ (P : Nat → Bool) (n : Nat) : mk P (n + 1) = if P n = true then mk P n ||| shlI 1 (nI n) else mk P n := rfl
theorem mk_val (P : Nat → Bool) : ∀ n, n ≤ 12 → ∃ a, a < 2 ^ n ∧ mk P n = nI a ∧ popN 12 a = cntB P n := by
  intro n
  induction n with
  | zero => intro _; exact ⟨0, by decide, rfl, rfl⟩
  | succ n ih =>
    intro hn
    obtain ⟨a, h1, h2, h3⟩ := ih (by omega)
    rw [mk_succ]
    have hp : 2 ^ (n + 1) = 2 ^ n + 2 ^ n := by rw [Nat.pow_succ]; omega
    by_cases q : P n = true
    · rw [if_pos q, h2, shl_tab n (by omega), or_tab n (by omega) a h1]
      refine ⟨_, by omega, rfl, ?_⟩
      rw [pop_tab n (by omega) a h1, h3]
      exact (show cntB P (n + 1) = cntB P n + 1 from if_pos q).symm
    · rw [if_neg q]
      refine ⟨a, by omega, h2, ?_⟩
      rw [h3]
      exact (show cntB P (n + 1) = cntB P n from if_neg q).symm
theorem pow12 {n : Nat} (h : n ≤ 12) : 2 ^ n ≤ 4096 := Nat.pow_le_pow_right (n := 2) (by omega) h
theorem bc_mk (P : Nat → Bool) {n : Nat} (hn : n ≤ 12) (σ : Mm) : fJ6_bitCount_0f7a4 (mk P n) σ = some (nI (cntB P n)) := by
  obtain ⟨a, h1, h2, h3⟩ := mk_val P n hn
  have := pow12 hn
  rw [bc_f, h2, bc_tab a (by omega), h3]
theorem cntB_le (P : Nat → Bool) (n : Nat) : cntB P n ≤ n := by
  induction n with
  | zero => exact Nat.le_refl _
  | succ n ih => unfold cntB; split <;> omega
theorem i32_ext {x y : Int32} (h : ∀ i, i < 32 → x.toBitVec.getLsbD i = y.toBitVec.getLsbD i) : x = y := Int32.toBitVec.inj (BitVec.eq_of_getLsbD_eq (fun i hi => h i hi))
theorem twoP : ∀ n, n < 31 → (shlI 1 (nI n)).toBitVec = BitVec.twoPow 32 n := by decide +kernel
theorem mkbit (P : Nat → Bool) : ∀ n, n ≤ 31 → ∀ i, (mk P n).toBitVec.getLsbD i = (decide (i < n) && P i) := by
  intro n
  induction n with
  | zero =>
    intro _ i
    show ((0 : Int32).toBitVec.getLsbD i) = _
    simp
  | succ n ih =>
    intro hn i
    rw [mk_succ]
    by_cases q : P n = true
    · rw [if_pos q, Int32.toBitVec_or, BitVec.getLsbD_or, ih (by omega), twoP n (by omega), BitVec.getLsbD_twoPow]
      by_cases z : n = i
      · subst z; simp [q]; omega
      · have : (i < n + 1) = (i < n) := by apply propext; omega
        simp [z, this]
    · rw [if_neg q, ih (by omega)]
      by_cases z : n = i
      · subst z; simp [q]
      · have : (i < n + 1) = (i < n) := by apply propext; omega
        simp [this]
theorem mk_congr {P Q : Nat → Bool} {n : Nat} (h : ∀ p, p < n → P p = Q p) : mk P n = mk Q n := by
  induction n with
  | zero => rfl
  | succ n ih => rw [mk_succ, mk_succ, ih (fun p hp => h p (by omega)), h n (by omega)]
theorem cntB_congr {P Q : Nat → Bool} {n : Nat} (h : ∀ p, p < n → P p = Q p) : cntB P n = cntB Q n := by
  induction n with
  | zero => rfl
  | succ n ih => unfold cntB; rw [ih (fun p hp => h p (by omega)), h n (by omega)]
theorem mk_or (P Q : Nat → Bool) {n : Nat} (hn : n ≤ 31) : mk P n ||| mk Q n = mk (fun p => P p || Q p) n := by
  apply i32_ext
  intro i hi
  rw [Int32.toBitVec_or, BitVec.getLsbD_or, mkbit _ _ hn, mkbit _ _ hn, mkbit _ _ hn]
  cases decide (i < n) <;> rfl
theorem mk_and (P Q : Nat → Bool) {n : Nat} (hn : n ≤ 31) : mk P n &&& mk Q n = mk (fun p => P p && Q p) n := by
  apply i32_ext
  intro i hi
  rw [Int32.toBitVec_and, BitVec.getLsbD_and, mkbit _ _ hn, mkbit _ _ hn, mkbit _ _ hn]
  cases decide (i < n) <;> rfl
theorem m1bit (i : Nat) (hi : i < 32) : (-1 : Int32).toBitVec.getLsbD i = true := by
  rw [show (-1 : Int32).toBitVec = BitVec.allOnes 32 from by decide, BitVec.getLsbD_allOnes]
  exact decide_eq_true hi
theorem mk_andn (P Q : Nat → Bool) {n : Nat} (hn : n ≤ 31) : mk P n &&& (mk Q n ^^^ -1) = mk (fun p => P p && !Q p) n := by
  apply i32_ext
  intro i hi
  rw [Int32.toBitVec_and, BitVec.getLsbD_and, Int32.toBitVec_xor, BitVec.getLsbD_xor, m1bit i hi, mkbit _ _ hn, mkbit _ _ hn, mkbit _ _ hn]
  cases decide (i < n) <;> simp
/-- a set of n is one of N -/
theorem mk_up (P : Nat → Bool) {n N : Nat} (h : n ≤ N) (hN : N ≤ 31) : mk P n = mk (fun p => decide (p < n) && P p) N := by
  apply i32_ext
  intro i hi
  rw [mkbit _ _ (by omega), mkbit _ _ hN]
  by_cases z : i < n
  · simp [z]; omega
  · simp [z]
theorem mk_0 (P : Nat → Bool) {n : Nat} (hn : n ≤ 31) : mk P n = 0 ↔ ∀ p, p < n → P p = false := by
  constructor
  · intro h p hp
    have := mkbit P n hn p
    rw [h] at this
    have h0 : (0 : Int32).toBitVec.getLsbD p = false := by simp
    rw [h0] at this
    simpa [hp] using this.symm
  · intro h
    have : mk P n = mk (fun _ => false) n := mk_congr h
    rw [this]
    clear this h
    induction n with
    | zero => rfl
    | succ n ih => rw [mk_succ, if_neg (by decide)]; exact ih (by omega)
theorem sh31 : ∀ k, k < 31 → (((nI k &&& 31).toBitVec.smod 32).toNat = k) := by decide +kernel
theorem shrN {a k : Nat} (ha : a < 2147483648) (hk : k < 31) : shrI (nI a) (nI k) = nI (a / 2 ^ k) := pk_shrN (by omega) _ k (sh31 k hk)
theorem and1 {a : Nat} (ha : a < 2147483648) : nI a &&& 1 = nI (a % 2) := pk_andN (by omega) (m := 1) 1 (by decide)
theorem bitAt {a k : Nat} (ha : a < 2147483648) (hk : k < 31) : shrI (nI a) (nI k) &&& 1 = nI (a / 2 ^ k % 2) := by
  rw [shrN ha hk, and1 (Nat.lt_of_le_of_lt (Nat.div_le_self _ _) ha)]
theorem bitN {a i : Nat} (ha : a < 2147483648) : (nI a).toBitVec.getLsbD i = decide (a / 2 ^ i % 2 = 1) := by
  have h1 : (nI a).toBitVec.toNat = a := pk_tn (by omega)
  rw [BitVec.getLsbD, h1, Nat.testBit]
  rw [Nat.shiftRight_eq_div_pow, Nat.one_and_eq_mod_two]
  have := Nat.mod_two_eq_zero_or_one (a / 2 ^ i)
  rcases this with q | q <;> rw [q] <;> rfl
theorem mk_at (P : Nat → Bool) {n k : Nat} (hn : n ≤ 12) (hk : k < n) : shrI (mk P n) (nI k) &&& 1 = if P k = true then 1 else 0 := by
  obtain ⟨a, h1, h2, -⟩ := mk_val P n hn
  have h12 := pow12 hn
  have hb := mkbit P n (by omega) k
  rw [h2] at hb ⊢
  rw [bitAt (by omega) (by omega)]
  rw [bitN (by omega)] at hb
  have := Nat.mod_two_eq_zero_or_one (a / 2 ^ k)
  rw [decide_eq_true hk, Bool.true_and] at hb
  rcases this with q | q
  · rw [q] at hb ⊢
    rw [← hb]; rfl
  · rw [q] at hb ⊢
    rw [← hb]; rfl
theorem sKn_mk (w : Nat → Int32) (r : Nat) : sKn w r = mk (fun p => decide (¬ w (26 + 14 * r + p) = 0)) 12 := by
  unfold sKn mk
  congr 1
  funext p acc
  by_cases q : w (26 + 14 * r + p) = 0 <;> simp [q]
def exB (Q : Nat → Bool) : Nat → Bool
  | 0 => false
  | n + 1 => exB Q n || Q n
theorem exB_iff (Q : Nat → Bool) (n : Nat) : exB Q n = true ↔ ∃ k, k < n ∧ Q k = true := by
  induction n with
  | zero => simp [exB]
  | succ n ih =>
    unfold exB
    rw [Bool.or_eq_true, ih]
    constructor
    · rintro (⟨k, h1, h2⟩ | h)
      · exact ⟨k, by omega, h2⟩
      · exact ⟨n, by omega, h⟩
    · rintro ⟨k, h1, h2⟩
      by_cases z : k = n
      · subst z; exact Or.inr h2
      · exact Or.inl ⟨k, by omega, h2⟩
theorem known_mk (w : Nat → Int32) (nr : Nat) : fo (fun r acc => acc ||| sKn w r) 0 nr = mk (fun p => exB (fun r => decide (¬ w (26 + 14 * r + p) = 0)) nr) 12 := by
  induction nr with
  | zero =>
    rw [fo_zero]
    exact ((mk_0 _ (by omega)).mpr (fun p _ => rfl)).symm
  | succ n ih =>
    rw [fo_succ, ih, sKn_mk, mk_or _ _ (by omega)]
    rfl
