/-! THE MEMORY OF CELLS BY NUMBERS: every cell that the claim's classes make has a number; a state of the whole system is three functions: ints, longs, references, by cell and place. -/
def WS : List Cond := lw_tbl.filter goodWord
theorem WS_in {w : Cond} (h : w ∈ WS) : w ∈ lw_tbl := (List.mem_filter.mp h).1
theorem WS_good {w : Cond} (h : w ∈ WS) : (w.onTables && w.keeps) = true ∨ ∃ ty, w = .arrayClass ty := good_of_word (List.mem_filter.mp h).2
theorem WS_of {w : Cond} (h : (decide (w ∈ lw_tbl) && goodWord w) = true) : w ∈ WS := by
  simp only [Bool.and_eq_true, decide_eq_true_eq] at h
  exact List.mem_filter.mpr h
abbrev Mm : Type := (Nat → Nat → Int32) × (Nat → Nat → Int64) × (Nat → Nat → Option Nat)
def gI (σ : Mm) (c k : Nat) : Int32 := σ.1 c k
def gL (σ : Mm) (c k : Nat) : Int64 := σ.2.1 c k
def gR (σ : Mm) (c k : Nat) : Option Nat := σ.2.2 c k
def sI (σ : Mm) (c k : Nat) (v : Int32) : Mm := (fun a b => if a = c ∧ b = k then v else σ.1 a b, σ.2.1, σ.2.2)
def sL (σ : Mm) (c k : Nat) (v : Int64) : Mm := (σ.1, fun a b => if a = c ∧ b = k then v else σ.2.1 a b, σ.2.2)
def sR (σ : Mm) (c k : Nat) (v : Option Nat) : Mm := (σ.1, σ.2.1, fun a b => if a = c ∧ b = k then v else σ.2.2 a b)
/-- a whole row of ints -/
def sA (σ : Mm) (c : Nat) (f : Nat → Int32) : Mm := (fun a b => if a = c then f b else σ.1 a b, σ.2.1, σ.2.2)
theorem gI_sI (σ : Mm) (c k a b : Nat) (v : Int32) : gI (sI σ c k v) a b = if a = c ∧ b = k then v else gI σ a b := rfl
theorem gI_sL (σ : Mm) (c k a b : Nat) (v : Int64) : gI (sL σ c k v) a b = gI σ a b := rfl
theorem gI_sR (σ : Mm) (c k a b : Nat) (v : Option Nat) : gI (sR σ c k v) a b = gI σ a b := rfl
theorem gI_sA (σ : Mm) (c a b : Nat) (f : Nat → Int32) : gI (sA σ c f) a b = if a = c then f b else gI σ a b := rfl
theorem gL_sI (σ : Mm) (c k a b : Nat) (v : Int32) : gL (sI σ c k v) a b = gL σ a b := rfl
theorem gL_sL (σ : Mm) (c k a b : Nat) (v : Int64) : gL (sL σ c k v) a b = if a = c ∧ b = k then v else gL σ a b := rfl
theorem gL_sR (σ : Mm) (c k a b : Nat) (v : Option Nat) : gL (sR σ c k v) a b = gL σ a b := rfl
theorem gL_sA (σ : Mm) (c a b : Nat) (f : Nat → Int32) : gL (sA σ c f) a b = gL σ a b := rfl
theorem gR_sI (σ : Mm) (c k a b : Nat) (v : Int32) : gR (sI σ c k v) a b = gR σ a b := rfl
theorem gR_sL (σ : Mm) (c k a b : Nat) (v : Int64) : gR (sL σ c k v) a b = gR σ a b := rfl
theorem gR_sR (σ : Mm) (c k a b : Nat) (v : Option Nat) : gR (sR σ c k v) a b = if a = c ∧ b = k then v else gR σ a b := rfl
theorem gR_sA (σ : Mm) (c a b : Nat) (f : Nat → Int32) : gR (sA σ c f) a b = gR σ a b := rfl
/-- the kinds of the classes' fields: 0 int, 1 long, 100 + c an object of class c, 200 + t an array of kind t (0 int, 1 long, 2 byte, 3 Law, 4 Plan, 5 Snow; constants: 6 ints, 7 a text, 8 its bytes) -/
def FKs : List (List Nat) := [[101, 108, 205, 200, 200, 201, 0, 0], [107, 200, 200, 200, 0, 0, 0], [200, 0, 0], [107, 200, 200, 200, 0], [205, 0, 0], [107, 200, 200, 200, 0], [200, 200, 200, 200, 0, 0, 0], [200, 0, 0, 0], [101, 200, 103], [107, 101, 101, 108, 100, 203, 204, 106, 106, 104, 102, 106, 102, 0, 0, 0, 0, 0, 1], [0, 202, 202, 200, 200, 202, 0, 0, 0, 0, 0, 0, 0, 0, 0, 207, 207, 0, 200, 200, 200, 200, 200, 200, 200, 200, 0, 0, 0, 0, 0, 0, 0, 200, 200, 200, 0, 0, 201, 200, 200, 200, 0, 1, 0, 0, 0, 0, 200, 201, 200, 0]]
/-- the cells in the order in which they are made: (0, class), (kind + 1, length) -/
def SHl : List (Nat × Nat) := [(0, 9), (0, 7), (1, 240), (0, 1), (1, 5), (1, 48), (1, 24), (0, 1), (1, 5), (1, 48), (1, 24), (0, 8), (1, 6), (0, 0), (6, 6), (1, 64), (2, 14), (0, 6), (1, 12), (1, 12), (1, 6), (1, 72), (0, 6), (1, 12), (1, 12), (1, 6), (1, 72), (0, 6), (1, 12), (1, 12), (1, 6), (1, 72), (0, 6), (1, 12), (1, 12), (1, 6), (1, 72), (0, 6), (1, 12), (1, 12), (1, 6), (1, 72), (0, 6), (1, 12), (1, 12), (1, 6), (1, 72), (4, 5), (0, 3), (1, 242), (1, 242), (1, 242), (0, 3), (1, 242), (1, 242), (1, 242), (0, 3), (1, 242), (1, 242), (1, 242), (0, 3), (1, 242), (1, 242), (1, 242), (0, 3), (1, 242), (1, 242), (1, 242), (5, 5), (0, 5), (1, 16), (1, 16), (1, 16), (0, 5), (1, 16), (1, 16), (1, 16), (0, 5), (1, 16), (1, 16), (1, 16), (0, 5), (1, 16), (1, 16), (1, 16), (0, 5), (1, 16), (1, 16), (1, 16), (0, 6), (1, 12), (1, 12), (1, 6), (1, 72), (0, 6), (1, 12), (1, 12), (1, 6), (1, 72), (0, 4), (6, 40), (0, 6), (1, 12), (1, 12), (1, 6), (1, 72), (0, 6), (1, 12), (1, 12), (1, 6), (1, 72), (0, 6), (1, 12), (1, 12), (1, 6), (1, 72), (0, 6), (1, 12), (1, 12), (1, 6), (1, 72), (0, 6), (1, 12), (1, 12), (1, 6), (1, 72), (0, 6), (1, 12), (1, 12), (1, 6), (1, 72), (0, 6), (1, 12), (1, 12), (1, 6), (1, 72), (0, 6), (1, 12), (1, 12), (1, 6), (1, 72), (0, 6), (1, 12), (1, 12), (1, 6), (1, 72), (0, 6), (1, 12), (1, 12), (1, 6), (1, 72), (0, 6), (1, 12), (1, 12), (1, 6), (1, 72), (0, 6), (1, 12), (1, 12), (1, 6), (1, 72), (0, 6), (1, 12), (1, 12), (1, 6), (1, 72), (0, 6), (1, 12), (1, 12), (1, 6), (1, 72), (0, 6), (1, 12), (1, 12), (1, 6), (1, 72), (0, 6), (1, 12), (1, 12), (1, 6), (1, 72), (0, 6), (1, 12), (1, 12), (1, 6), (1, 72), (0, 6), (1, 12), (1, 12), (1, 6), (1, 72), (0, 6), (1, 12), (1, 12), (1, 6), (1, 72), (0, 6), (1, 12), (1, 12), (1, 6), (1, 72), (0, 6), (1, 12), (1, 12), (1, 6), (1, 72), (0, 6), (1, 12), (1, 12), (1, 6), (1, 72), (0, 6), (1, 12), (1, 12), (1, 6), (1, 72), (0, 6), (1, 12), (1, 12), (1, 6), (1, 72), (0, 6), (1, 12), (1, 12), (1, 6), (1, 72), (0, 6), (1, 12), (1, 12), (1, 6), (1, 72), (0, 6), (1, 12), (1, 12), (1, 6), (1, 72), (0, 6), (1, 12), (1, 12), (1, 6), (1, 72), (0, 6), (1, 12), (1, 12), (1, 6), (1, 72), (0, 6), (1, 12), (1, 12), (1, 6), (1, 72), (0, 6), (1, 12), (1, 12), (1, 6), (1, 72), (0, 6), (1, 12), (1, 12), (1, 6), (1, 72), (0, 6), (1, 12), (1, 12), (1, 6), (1, 72), (0, 6), (1, 12), (1, 12), (1, 6), (1, 72), (0, 6), (1, 12), (1, 12), (1, 6), (1, 72), (0, 6), (1, 12), (1, 12), (1, 6), (1, 72), (0, 6), (1, 12), (1, 12), (1, 6), (1, 72), (0, 6), (1, 12), (1, 12), (1, 6), (1, 72), (0, 6), (1, 12), (1, 12), (1, 6), (1, 72), (0, 6), (1, 12), (1, 12), (1, 6), (1, 72), (0, 2), (1, 400), (0, 6), (1, 12), (1, 12), (1, 6), (1, 72), (0, 2), (1, 400), (0, 10), (3, 240), (3, 960), (1, 4), (1, 128), (1, 5), (1, 5), (1, 48), (1, 48), (1, 24), (1, 24), (1, 240), (1, 5), (1, 351), (1, 351), (1, 1755), (2, 8191), (1, 8191), (1, 12), (1, 14040), (1, 72), (2, 14), (1, 351), (2, 1), (1, 6)]
/-- constants: from 1000 on the static rows; 1010 the script; from 1100 on the texts and their bytes -/
def SHc : List (Nat × Nat) := [(7, 5), (7, 5), (7, 5), (7, 4), (7, 4), (7, 4), (7, 4), (7, 4), (7, 4), (99, 0), (10, 0), (99, 0), (99, 0), (99, 0), (99, 0), (99, 0), (99, 0), (99, 0), (99, 0), (99, 0), (99, 0), (99, 0), (99, 0), (99, 0), (99, 0), (99, 0), (99, 0), (99, 0), (99, 0), (99, 0), (99, 0), (99, 0), (99, 0), (99, 0), (99, 0), (99, 0), (99, 0), (99, 0), (99, 0), (99, 0), (99, 0), (99, 0), (99, 0), (99, 0), (99, 0), (99, 0), (99, 0), (99, 0), (99, 0), (99, 0), (99, 0), (99, 0), (99, 0), (99, 0), (99, 0), (99, 0), (99, 0), (99, 0), (99, 0), (99, 0), (99, 0), (99, 0), (99, 0), (99, 0), (99, 0), (99, 0), (99, 0), (99, 0), (99, 0), (99, 0), (99, 0), (99, 0), (99, 0), (99, 0), (99, 0), (99, 0), (99, 0), (99, 0), (99, 0), (99, 0), (99, 0), (99, 0), (99, 0), (99, 0), (99, 0), (99, 0), (99, 0), (99, 0), (99, 0), (99, 0), (99, 0), (99, 0), (99, 0), (99, 0), (99, 0), (99, 0), (99, 0), (99, 0), (99, 0), (99, 0), (8, 0), (9, 5), (8, 1), (9, 4), (8, 2), (9, 4), (8, 3), (9, 6), (8, 4), (9, 4), (8, 5), (9, 1), (99, 0), (99, 0), (99, 0), (99, 0), (99, 0), (99, 0), (99, 0), (99, 0), (99, 0), (99, 0), (99, 0), (99, 0), (99, 0), (99, 0), (99, 0), (99, 0), (99, 0), (99, 0), (99, 0), (99, 0), (99, 0), (99, 0), (99, 0), (99, 0), (99, 0), (99, 0), (99, 0), (99, 0), (99, 0), (99, 0), (99, 0), (99, 0), (99, 0), (99, 0), (99, 0), (99, 0), (99, 0), (99, 0), (99, 0), (99, 0), (99, 0), (99, 0), (99, 0), (99, 0), (99, 0), (99, 0), (99, 0), (99, 0), (99, 0), (99, 0), (99, 0), (99, 0), (99, 0), (99, 0), (99, 0), (99, 0), (99, 0), (99, 0), (99, 0), (99, 0), (99, 0), (99, 0), (99, 0), (99, 0), (99, 0), (99, 0), (99, 0), (99, 0), (99, 0), (99, 0), (99, 0), (99, 0), (99, 0), (99, 0), (99, 0), (99, 0), (99, 0), (99, 0), (99, 0), (99, 0), (99, 0), (99, 0), (99, 0), (99, 0), (99, 0), (99, 0), (99, 0), (99, 0), (11, 0), (99, 0), (99, 0), (99, 0), (99, 0), (99, 0), (99, 0), (99, 0), (99, 0), (99, 0), (99, 0), (99, 0), (99, 0), (99, 0), (99, 0), (99, 0), (99, 0), (99, 0), (99, 0), (99, 0), (99, 0), (99, 0), (99, 0), (99, 0), (99, 0), (99, 0), (99, 0), (99, 0), (99, 0), (99, 0), (99, 0), (99, 0), (99, 0), (99, 0), (99, 0), (99, 0), (99, 0), (99, 0), (99, 0), (99, 0), (99, 0), (99, 0), (99, 0), (99, 0), (99, 0), (99, 0), (99, 0), (99, 0), (99, 0), (99, 0), (99, 0), (99, 0), (99, 0), (99, 0), (99, 0), (99, 0), (99, 0), (99, 0), (99, 0), (99, 0), (99, 0), (99, 0), (99, 0), (99, 0), (99, 0), (99, 0), (99, 0), (99, 0), (99, 0), (99, 0), (99, 0), (99, 0), (99, 0), (99, 0), (99, 0), (99, 0), (99, 0), (99, 0), (99, 0), (99, 0), (99, 0), (99, 0), (99, 0), (99, 0), (99, 0), (99, 0), (99, 0), (99, 0), (99, 0), (99, 0), (99, 0), (99, 0), (99, 0), (99, 0), (99, 0), (99, 0), (99, 0), (99, 0), (99, 0), (99, 0)]
def SH (i : Nat) : Nat × Nat := if i < 1000 then SHl.getD i (99, 0) else SHc.getD (i - 1000) (99, 0)
def ln (i : Nat) : Nat := (SH i).2
def SHk (i : Nat) : Nat := if (SH i).1 = 0 then 100 + (SH i).2 else 199 + (SH i).1
def FK (i k : Nat) : Nat := if (SH i).1 = 0 then (FKs.getD (SH i).2 []).getD k 0 else if (SH i).1 = 2 then 1 else if (SH i).1 = 4 then 103 else if (SH i).1 = 5 then 105 else if (SH i).1 = 6 then 106 else 0
/-- cells by the order in which they are made: the Finder's row of losses (334) is the 17th, those from 16 on come one later; k-th made: cnm k; the cell i is made as the cps i-th -/
def cnm (k : Nat) : Nat := if k < 16 then k else if k = 16 then 334 else if k < 335 then k - 1 else k
def cps (i : Nat) : Nat := if i < 16 then i else if i < 334 then i + 1 else if i = 334 then 16 else i
theorem cps_cases (i : Nat) : (i < 16 ∧ cps i = i) ∨ (16 ≤ i ∧ i < 334 ∧ cps i = i + 1) ∨ (i = 334 ∧ cps i = 16) ∨ (335 ≤ i ∧ cps i = i) := by
  unfold cps
  by_cases h1 : i < 16
  · rw [if_pos h1]; omega
  · rw [if_neg h1]
    by_cases h2 : i < 334
    · rw [if_pos h2]; omega
    · rw [if_neg h2]
      by_cases h3 : i = 334
      · rw [if_pos h3]; omega
      · rw [if_neg h3]; omega
theorem cnm_cases (k : Nat) : (k < 16 ∧ cnm k = k) ∨ (k = 16 ∧ cnm k = 334) ∨ (17 ≤ k ∧ k < 335 ∧ cnm k = k - 1) ∨ (335 ≤ k ∧ cnm k = k) := by
  unfold cnm
  by_cases h1 : k < 16
  · rw [if_pos h1]; omega
  · rw [if_neg h1]
    by_cases h2 : k = 16
    · rw [if_pos h2]; omega
    · rw [if_neg h2]
      by_cases h3 : k < 335
      · rw [if_pos h3]; omega
      · rw [if_neg h3]; omega
theorem cnm_cps (i : Nat) : cnm (cps i) = i := by
  have h1 := cps_cases i
  have h2 := cnm_cases (cps i)
  omega
theorem cps_cnm (k : Nat) : cps (cnm k) = k := by
  have h1 := cnm_cases k
  have h2 := cps_cases (cnm k)
  omega
theorem cps_of {n b : Nat} (h : cnm n = b) : cps b = n := by rw [← h, cps_cnm]
theorem cnm_lo {n : Nat} (h : n < 16) : cnm n = n := by have := cnm_cases n; omega
theorem cnm_hi {n : Nat} (h : 16 ≤ n) (h2 : n < 334) : cnm (n + 1) = n := by have := cnm_cases (n + 1); omega
theorem cps_lt {i n : Nat} (h : i + 1 < n ∨ i < n ∧ i < 16) : cps i < n := by have := cps_cases i; omega
theorem cps_dn {i n : Nat} (h : cps i < n) (hn : n ≤ 16) : i < n := by have := cps_cases i; omega
theorem cps_up {i n : Nat} (h : cps i < n + 1) (hn : 16 ≤ n) (hn2 : n ≤ 334) : i < n ∨ i = 334 := by have := cps_cases i; omega
theorem cps_big {i : Nat} (h : 335 ≤ i) : cps i = i := by have := cps_cases i; omega
/-- a reference of a kind, with n cells made -/
def RT (n i K : Nat) : Prop := SHk i = K ∧ (K < 206 → cps i < n)
def WT (n : Nat) (σ : Mm) : Prop := ∀ c k i, cps c < n → gR σ c k = some i → RT n i (FK c k)
theorem RT.mono {n n' i K : Nat} (h : RT n i K) (hn : n ≤ n') : RT n' i K := ⟨h.1, fun q => Nat.lt_of_lt_of_le (h.2 q) hn⟩
/-! the heap of a memory: A gives each cell its address -/
def cv (A : Nat → Nat) : Value → Value
  | .ref i => .ref (A i)
  | v => v
theorem cv_cat (A : Nat → Nat) (v : Value) : (cv A v).category = v.category := by cases v <;> rfl
theorem cv_rf (A : Nat → Nat) (r : Option Nat) : cv A (va_rf r) = va_rf (r.map A) := by cases r <;> rfl
def fv (A : Nat → Nat) (K : Nat) (σ : Mm) (i k : Nat) : Value := if K = 0 then .int (gI σ i k) else if K = 1 then .long (gL σ i k) else va_rf ((gR σ i k).map A)
def cellOf (A : Nat → Nat) (tc : Nat → ClassId) (σ : Mm) (i : Nat) : va_E :=
  if (SH i).1 = 0 then .inr ((SH i).2, (List.range (FKs.getD (SH i).2 []).length).map (fun k => fv A (FK i k) σ i k))
  else if (SH i).1 = 2 then .inl (tc 1, (SH i).2, .inr (.inl (fun k => gL σ i k)))
  else if (SH i).1 = 1 ∨ (SH i).1 = 3 then .inl (tc ((SH i).1 - 1), (SH i).2, .inl (fun k => gI σ i k))
  else .inl (tc ((SH i).1 - 1), (SH i).2, .inr (.inr (.inr (.inr (fun k => (gR σ i k).map A)))))
def wsOf (A : Nat → Nat) (tc : Nat → ClassId) (n : Nat) (σ : Mm) : va_W := (List.range n).map (fun k => (A (cnm k), cellOf A tc σ (cnm k)))
theorem ws_get {A : Nat → Nat} {tc : Nat → ClassId} {n : Nat} {σ : Mm} {i : Nat} (h : cps i < n) : (wsOf A tc n σ)[cps i]? = some (A i, cellOf A tc σ i) := by
  simp [wsOf, h, cnm_cps]
theorem ws_getk {A : Nat → Nat} {tc : Nat → ClassId} {n : Nat} {σ : Mm} {k : Nat} (h : k < n) : (wsOf A tc n σ)[k]? = some (A (cnm k), cellOf A tc σ (cnm k)) := by
  simp [wsOf, h]
theorem ws_set {A : Nat → Nat} {tc : Nat → ClassId} {n : Nat} {σ σ' : Mm} {i : Nat} {e : va_E} (h : cps i < n) (he : e = cellOf A tc σ' i) (ho : ∀ j, j ≠ i → cellOf A tc σ' j = cellOf A tc σ j) : (wsOf A tc n σ).set (cps i) (A i, e) = wsOf A tc n σ' := by
  apply List.ext_getElem?
  intro k
  by_cases hk : k < n
  · by_cases hki : k = cps i
    · subst hki
      rw [List.getElem?_set_self (by simp [wsOf, hk]), ws_get hk, he]
    · have hne : cnm k ≠ i := fun z => hki (cps_of z).symm
      rw [List.getElem?_set_ne (Ne.symm hki), ws_getk hk, ws_getk hk, ho _ hne]
  · rw [List.getElem?_eq_none (by simp [wsOf]; omega), List.getElem?_eq_none (by simp [wsOf]; omega)]
theorem cell_ext {A : Nat → Nat} {tc : Nat → ClassId} {σ σ' : Mm} {j : Nat} (h1 : ∀ k, gI σ' j k = gI σ j k) (h2 : ∀ k, gL σ' j k = gL σ j k) (h3 : ∀ k, gR σ' j k = gR σ j k) : cellOf A tc σ' j = cellOf A tc σ j := by
  simp only [cellOf, fv, h1, h2, h3]
theorem cell_obj {A : Nat → Nat} {tc : Nat → ClassId} {σ : Mm} {i ci : Nat} (h : SH i = (0, ci)) : cellOf A tc σ i = .inr (ci, (List.range (FKs.getD ci []).length).map (fun k => fv A (FK i k) σ i k)) := by
  simp [cellOf, h]
theorem SH_obj {n i ci : Nat} (h : RT n i (100 + ci)) (hc : ci < 100) : SH i = (0, ci) := by
  have h1 := h.1
  unfold SHk at h1
  split at h1
  · rename_i q
    have : (SH i).2 = ci := by omega
    rw [← q, ← this]
  · omega
theorem SH_arr {n i t : Nat} (h : RT n i (200 + t)) : SH i = (t + 1, ln i) ∨ (SH i).1 = 0 ∧ (SH i).2 = 100 + t := by
  have h1 := h.1
  unfold SHk at h1
  split at h1
  · right; omega
  · left
    rename_i q
    have : (SH i).1 = t + 1 := by omega
    rw [← this]; rfl
theorem cell_put {A : Nat → Nat} {tc : Nat → ClassId} {σ σ' : Mm} {i ci k : Nat} {v : Value} (hs : SH i = (0, ci)) (hk : k < (FKs.getD ci []).length) (hv : v = fv A (FK i k) σ' i k) (ho : ∀ j, j ≠ k → gI σ' i j = gI σ i j ∧ gL σ' i j = gL σ i j ∧ gR σ' i j = gR σ i j) :
    (.inr (ci, ((List.range (FKs.getD ci []).length).map (fun k => fv A (FK i k) σ i k)).set k v) : va_E) = cellOf A tc σ' i := by
  rw [cell_obj hs]
  congr 2
  apply List.ext_getElem?
  intro j
  by_cases hj : j < (FKs.getD ci []).length
  · by_cases hjk : j = k
    · subst hjk
      rw [List.getElem?_set_self (by simpa using hj), List.getElem?_map, List.getElem?_range hj, hv]
      rfl
    · rw [List.getElem?_set_ne (Ne.symm hjk), List.getElem?_map, List.getElem?_map, List.getElem?_range hj]
      obtain ⟨e1, e2, e3⟩ := ho j hjk
      simp [fv, e1, e2, e3]
  · rw [List.getElem?_eq_none (by simpa using hj), List.getElem?_eq_none (by simpa using hj)]
/-! constants -/
abbrev XS : Type := Nat × (Nat → Int32)
def KIs : List (List Int) := [[1, 1, 0, 0, 1], [6, 5, 99, 9, 99], [5, 4, 40, 1, 60], [0, 1, 0, 0], [29, 9, 4, 9], [0, 5, 0, 0], [0, 0, 0, 0], [29, 9, 9, 4], [0, 3, 3, 0]]
def KI (j k : Nat) : Int32 := Int32.ofInt ((KIs.getD j []).getD k 0)
def stN : List String := ["RULE_LOW", "RULE_HIGH", "RULE_USUAL", "PAGE_LOW", "PAGE_HIGH", "PAGE_USUAL", "READER_LOW", "READER_HIGH", "READER_USUAL"]
/-- words of the tables that are not of the good ones: kept apart -/
def rxE : String := "java/util/NoSuchElementException"
def nmI (c d : String) : MethodName := ⟨c, "<init>", d⟩
def XWn : List (String × Nat × MethodName) := [(RX9, 9, yX7_init), (RX9, 62, yX6_init), (RX9, 79, yX2_init), (RX4, 17, yX6_init), (RX0, 36, yX6_init)]
def XWd : List MethodName := [nmI "java/lang/RuntimeException" "(Ljava/lang/String;)V", nmI "java/lang/Exception" "(Ljava/lang/String;)V", nmI "java/lang/Throwable" "(Ljava/lang/String;)V"]
def rxT : String := "no such READER, no such what"
def jX (U : State) : Prop := (∀ w ∈ XWn, va_Nw (.methodLinkNest w.1 w.2.1 w.2.2 RX9) U) ∧ (∀ w ∈ XWd, va_Nw (.declares w) U) ∧ (va_Nw (.castable rxE rxE) U ∧ ∃ sa, vk_R RX9 190 rxT sa U) ∧ va_AO RX3 U ∧ va_AO RX5 U ∧ va_AO RX6 U
theorem jX.same {u U : State} (hv : U.vm = u.vm) (h : jX u) : jX U := by
  have ha : u.vm.Alike U.vm := by rw [hv]; exact Vm.Alike.refl _
  obtain ⟨h1, h2, ⟨h3, sa, h7⟩, h4, h5, h6⟩ := h
  exact ⟨fun w hw => va_Nw.same rfl hv.symm (h1 w hw), fun w hw => va_Nw.same rfl hv.symm (h2 w hw), ⟨va_Nw.same rfl hv.symm h3, sa, vk_R.same hv h7⟩, va_AO.moved ha h4, va_AO.moved ha h5, va_AO.moved ha h6⟩
theorem jX.warm {s U : State} (hW : s.WarmedH U.vm) (h : jX s) : jX U := by
  obtain ⟨h1, h2, ⟨h3, sa, h7⟩, h4, h5, h6⟩ := h
  exact ⟨fun w hw => va_Nw.warmM hW (h1 w hw), fun w hw => va_Nw.warmD hW (h2 w hw), ⟨va_Nw.warmC hW h3, sa, vk_R.warm hW h7⟩, va_AO.moved hW.alike h4, va_AO.moved hW.alike h5, va_AO.moved hW.alike h6⟩
/-- what a throw wants of the heap, and those words -/
def jZ (S : Nat → Prop) (U : State) (H : Heap) : Prop := vx_Zq Bundle.tN "UNASSIGNED_STACK" Bundle.steD S U H ∧ vx_Zq Bundle.tN "SUPPRESSED_SENTINEL" Bundle.listD S U H ∧ jX U
def lenKS : List Nat := [5, 4, 4, 6, 4, 1]
def bytKS : List (List Int32) := [[119, 104, 99, 102, 97], [99, 100, 98, 116], [99, 98, 118, 110], [98, 99, 100, 115, 110, 116], [114, 99, 103, 110], [121]]
def txKS : List (String × Nat × String × Nat) := [(RX1, 112, "whcfa", 0), (RX1, 114, "cdbt", 1), (RX1, 116, "cbvn", 2), (RX3, 85, "bcdsnt", 3), (RX5, 49, "rcgn", 4), (RX10, 26, "y", 5), (RX10, 32, "bcdsnt", 3), (RX10, 251, "whcfa", 0), (RX10, 257, "cdbt", 1), (RX10, 259, "cbvn", 2), (RX10, 267, "rcgn", 4)]
def jK (X : XS) (A : Nat → Nat) (S : Nat → Prop) (U : State) (H : Heap) : Prop :=
  (∀ j, j < 9 → va_Z "SnowBooks$Hall" (stN.getD j "") "[I" (.ref (A (1000 + j))) S U H ∧ va_T .int (A (1000 + j)) (ln (1000 + j)) (fun k => .int (KI j k)) S U H) ∧
  (va_X (A 1010) X.1 X.2 U H ∧ A 1010 < H.size ∧ ¬ S (A 1010)) ∧
  (vk_S 6 lenKS bytKS (fun i => A (1100 + 2 * i)) (fun i => A (1101 + 2 * i)) S U H ∧ ∀ q ∈ txKS, vk_R q.1 q.2.1 q.2.2.1 (A (1100 + 2 * q.2.2.2)) U) ∧ va_Z "java/lang/String" "COMPACT_STRINGS" "Z" (.int 1) S U H ∧ va_Zq "jdk/internal/util/Preconditions" "SIOOBE_FORMATTER" "Ljava/util/function/BiFunction;" S U H ∧ jZ S U H
theorem jK.same {X : XS} {A : Nat → Nat} {S : Nat → Prop} {u U : State} {H : Heap} (hv : U.vm = u.vm) (h : jK X A S u H) : jK X A S U H := by
  have ha : u.vm.Alike U.vm := by rw [hv]; exact Vm.Alike.refl _
  exact ⟨fun j hj => ⟨va_Z.moved ha (h.1 j hj).1, va_T.moved ha (h.1 j hj).2⟩, ⟨va_X.moved ha h.2.1.1, h.2.1.2⟩, ⟨vk_S.moved ha h.2.2.1.1, fun q hq => vk_R.same hv (h.2.2.1.2 q hq)⟩, va_Z.moved ha h.2.2.2.1, va_Zq.moved ha h.2.2.2.2.1, vx_Zq.moved ha h.2.2.2.2.2.1, vx_Zq.moved ha h.2.2.2.2.2.2.1, jX.same hv h.2.2.2.2.2.2.2⟩
theorem jK.call {X : XS} {A : Nat → Nat} {S S' : Nat → Prop} {s U : State} {H : Heap} {locs : List Loc} (h : jK X A S s s.heap) (hS : va_S S s.heap H locs) (hW : s.WarmedH U.vm) (hSS : ∀ q, S' q → S q) : jK X A S' U H := by
  have ha : s.vm.Alike U.vm := hW.alike
  refine ⟨fun j hj => ⟨((va_Z.moved ha (h.1 j hj).1).kept hS.2.1).narrow hSS, ((va_T.moved ha (h.1 j hj).2).kept hS.2.1).narrow hSS⟩, ⟨(va_X.moved ha h.2.1.1).kept (hS.2.1 _ h.2.1.2.1 h.2.1.2.2), Nat.lt_of_lt_of_le h.2.1.2.1 hS.1, fun z => h.2.1.2.2 (hSS _ z)⟩, ⟨((vk_S.moved ha h.2.2.1.1).kept hS.2.1).narrow hSS, fun q hq => vk_R.warm hW (h.2.2.1.2 q hq)⟩, ((va_Z.moved ha h.2.2.2.1).kept hS.2.1).narrow hSS, ((va_Zq.moved ha h.2.2.2.2.1).kept hS.2.1).narrow hSS, ((vx_Zq.moved ha h.2.2.2.2.2.1).kept hS.2.1).narrow hSS, ((vx_Zq.moved ha h.2.2.2.2.2.2.1).kept hS.2.1).narrow hSS, jX.warm hW h.2.2.2.2.2.2.2⟩
theorem jK.agr {X : XS} {A Ae : Nat → Nat} {S : Nat → Prop} {U : State} {H : Heap} (hA : ∀ i, 1000 ≤ i → A i = Ae i) (h : jK X Ae S U H) : jK X A S U H := by
  have e1 : (fun i => A (1100 + 2 * i)) = (fun i => Ae (1100 + 2 * i)) := funext fun i => hA _ (by omega)
  have e2 : (fun i => A (1101 + 2 * i)) = (fun i => Ae (1101 + 2 * i)) := funext fun i => hA _ (by omega)
  unfold jK
  rw [e1, e2, hA 1010 (by omega)]
  refine ⟨fun j hj => by rw [hA (1000 + j) (by omega)]; exact h.1 j hj, h.2.1, ⟨h.2.2.1.1, fun q hq => by rw [hA (1100 + 2 * q.2.2.2) (by omega)]; exact h.2.2.1.2 q hq⟩, h.2.2.2⟩
/-! numbers -/
def remI (x y : Int32) : Int32 := x - x / y * y
def remL (x y : Int64) : Int64 := x - x / y * y
def shlI (x y : Int32) : Int32 := x <<< (y &&& 31)
def shrI (x y : Int32) : Int32 := x >>> (y &&& 31)
def ushrI (x y : Int32) : Int32 := (x.toUInt32 >>> (y.toUInt32 &&& Int32.toUInt32 31)).toInt32
def ushrL (x : Int64) (y : Int32) : Int64 := (x.toUInt64 >>> (y.toInt64.toUInt64 &&& Int64.toUInt64 63)).toInt64
def shlL (x : Int64) (y : Int32) : Int64 := x <<< (y.toInt64 &&& 63)
def minI (x y : Int32) : Int32 := if y < x then y else x
def maxI (x y : Int32) : Int32 := if x < y then y else x
def absI (x : Int32) : Int32 := if 0 ≤ x then x else 0 - x
def minL (x y : Int64) : Int64 := if y < x then y else x
def maxL (x y : Int64) : Int64 := if y < x then x else y
def byI (x : Int32) : Int32 := x.toInt8.toInt32
def chI (x : Int32) : Int32 := (x.toUInt32 % 65536).toInt32
def ixB (j : Int32) (n : Nat) : Bool := decide (¬ (j < 0 ∨ n ≤ j.toNatClampNeg))
theorem ixB_ok {j : Int32} {n : Nat} (h : ixB j n = true) : vp_in j n := by
  have h2 : ¬ (j < 0 ∨ n ≤ j.toNatClampNeg) := of_decide_eq_true h
  exact h2
def zB (x : Int32) : Bool := decide (x = 0 ∨ x = 1)
theorem zB_ok {x : Int32} (h : zB x = true) : x = 0 ∨ x = 1 := of_decide_eq_true h
def cpB (sp dp k : Int32) (n0 n1 : Nat) : Bool := decide (¬ sp < 0 ∧ ¬ dp < 0 ∧ ¬ k < 0 ∧ sp.toNatClampNeg + k.toNatClampNeg ≤ n0 ∧ dp.toNatClampNeg + k.toNatClampNeg ≤ n1)
theorem cpB_ok {sp dp k : Int32} {n0 n1 : Nat} (h : cpB sp dp k n0 n1 = true) : ¬ sp < 0 ∧ ¬ dp < 0 ∧ ¬ k < 0 ∧ sp.toNatClampNeg + k.toNatClampNeg ≤ n0 ∧ dp.toNatClampNeg + k.toNatClampNeg ≤ n1 := of_decide_eq_true h
def chB (x : Int32) : Bool := decide (0 ≤ x ∧ x < 256)
theorem chB_ok {x : Int32} (h : chB x = true) : 0 ≤ x ∧ x < 256 := of_decide_eq_true h
/-! the judgement -/
abbrev JM : Type := ByteArray × String × Nat × Option FieldType × Bool
def tysOf (tc : Nat → ClassId) : List (ClassId × FieldType) := [(tc 0, .int), (tc 1, .long), (tc 2, .byte), (tc 3, .object RX3), (tc 4, .object RX5), (tc 5, .object RX6)]
def Agr (ne n : Nat) (Ae A : Nat → Nat) : Prop := ∀ i, (cps i < ne ∨ n ≤ cps i) → A i = Ae i
theorem Agr.big {ne n z : Nat} {Ae A : Nat → Nat} (h : Agr ne n Ae A) (hn : n ≤ 1000) (hz : 1000 ≤ z) : A z = Ae z := h z (by rw [cps_big (by omega)]; omega)
def okR (ty : Option FieldType) (r : Option Value) : Prop := match ty, r with
  | some t, some (.int x) => narrow t (.int x) = .int x
  | _, _ => True
def jQ (ret : Option FieldType) (Ae : Nat → Nat) (ne : Nat) (D : va_G) (tc : Nat → ClassId) (S : Nat → Prop) (n' : Nat) (r : Option Value) (σ' : Mm) : Array Value → State → Outcome → State → Prop := fun _ st oc t =>
  (∃ A', Agr ne n' Ae A' ∧ oc = .returned (r.map (cv A')) ∧ okR ret r ∧ WT n' σ' ∧ va_P D vwCl (wsOf A' tc n' σ') t.heap ∧ va_D S (wsOf A' tc n' σ')) ∧ va_F S st t
def jC (X : XS) (M : JM) (d : Nat) (p : Program) (l : Launch) (R : Room) (s : State) (m : MethodId) (args : Array Value) (meth : Method) (c : Code) (Ae : Nat → Nat) (ne : Nat) (D : va_G) (tc : Nat → ClassId) (S : Nat → Prop) : Prop :=
  (p.tables.exec = Jvm.exec ∧ c.code = M.1 ∧ c.maxLocals = M.2.2.1 ∧ s.vm.findClass M.2.1 = some m.cls ∧ (∀ w ∈ WS, w.before args s = true)) ∧ meth.sig.returnType = M.2.2.2.1 ∧ meth.locks = false ∧ (M.2.2.2.2 = true → meth.name = "<init>") ∧
  d ≤ R.frames ∧ 64 * d ≤ R.locals ∧ va_K D vwCl (tysOf tc) s ∧ jK X Ae S s s.heap ∧ (∀ q, s.heap.size ≤ q → S q) ∧ ne ≤ 1000 ∧ l.stackTraces = false
def J (X : XS) (M : JM) (d kc ks : Nat) (F : Nat × Option Value × Mm) (pc : Nat) (lv : List (Nat × Value)) (st : List Value) (n : Nat) (σ : Mm) : Prop :=
  ∀ (p : Program) (l : Launch) (e : Env) (R : Room) (s : State) (m : MethodId) (args : Array Value) (below : List Frame) (meth : Method) (c : Code) (Ae : Nat → Nat) (ne : Nat) (D : va_G) (tc : Nat → ClassId) (S : Nat → Prop) (A : Nat → Nat) (H : Heap) (locs : List Loc) (cells slots : Nat) (ls : Array Slot),
    jC X M d p l R s m args meth c Ae ne D tc S → cells + kc ≤ R.cells → slots + ks ≤ R.slots → ne ≤ n → n ≤ 1000 → Agr ne n Ae A → WT n σ →
    va_P D vwCl (wsOf A tc n σ) H → va_D S (wsOf A tc n σ) → va_S S s.heap H locs → lv_has ls M.2.2.1 (lv.map (fun q => (q.1, cv A q.2))) →
    W p l e R s m args below meth c H locs cells slots (MQ below (jQ M.2.2.2.1 Ae ne D tc S F.1 F.2.1 F.2.2) args s R.cells R.slots S) (F0 m pc ls (st.map (cv A)))
section JJ
variable {X : XS} {M : JM} {d kc ks : Nat} {F : Nat × Option Value × Mm} {pc q : Nat} {lv : List (Nat × Value)} {st : List Value} {n : Nat} {σ : Mm}
theorem J_iconst {v : Int} {x : Int32} (hd : decode M.1 pc = .ok (.iconst v, 1)) (hv : Int32.ofInt v = x) (hq : pc + 1 = q) (h : J X M d kc ks F q lv (.int x :: st) n σ) : J X M d kc ks F pc lv (st) n σ := by
  intro p l e R s m args below meth c Ae ne D tc S A H locs cells slots ls C h1 h2 h3 h3' h4 h5 hP hD hS hL
  subst hq
  exact lv_iconst C.1.1 C.1.2.1  hd hv (h p l e R s m args below meth c Ae ne D tc S A H locs cells slots ls C h1 h2 h3 h3' h4 h5 hP hD hS hL)
theorem J_bipush {v : Int} {x : Int32} (hd : decode M.1 pc = .ok (.bipush v, 2)) (hv : (Int8.ofInt v).toInt32 = x) (hq : pc + 2 = q) (h : J X M d kc ks F q lv (.int x :: st) n σ) : J X M d kc ks F pc lv (st) n σ := by
  intro p l e R s m args below meth c Ae ne D tc S A H locs cells slots ls C h1 h2 h3 h3' h4 h5 hP hD hS hL
  subst hq
  exact lv_bipush C.1.1 C.1.2.1  hd hv (h p l e R s m args below meth c Ae ne D tc S A H locs cells slots ls C h1 h2 h3 h3' h4 h5 hP hD hS hL)
theorem J_sipush {v : Int} {x : Int32} (hd : decode M.1 pc = .ok (.sipush v, 3)) (hv : (Int16.ofInt v).toInt32 = x) (hq : pc + 3 = q) (h : J X M d kc ks F q lv (.int x :: st) n σ) : J X M d kc ks F pc lv (st) n σ := by
  intro p l e R s m args below meth c Ae ne D tc S A H locs cells slots ls C h1 h2 h3 h3' h4 h5 hP hD hS hL
  subst hq
  exact lv_sipush C.1.1 C.1.2.1  hd hv (h p l e R s m args below meth c Ae ne D tc S A H locs cells slots ls C h1 h2 h3 h3' h4 h5 hP hD hS hL)
theorem J_lconst {v : Fin 2} {x : Int64} (hd : decode M.1 pc = .ok (.lconst v, 1)) (hv : Int64.ofNat (v : Nat) = x) (hq : pc + 1 = q) (h : J X M d kc ks F q lv (.long x :: st) n σ) : J X M d kc ks F pc lv (st) n σ := by
  intro p l e R s m args below meth c Ae ne D tc S A H locs cells slots ls C h1 h2 h3 h3' h4 h5 hP hD hS hL
  subst hq
  exact lv_lconst C.1.1 C.1.2.1  hd hv (h p l e R s m args below meth c Ae ne D tc S A H locs cells slots ls C h1 h2 h3 h3' h4 h5 hP hD hS hL)
theorem J_null  (hd : decode M.1 pc = .ok (.aconst_null, 1))  (hq : pc + 1 = q) (h : J X M d kc ks F q lv (.null :: st) n σ) : J X M d kc ks F pc lv (st) n σ := by
  intro p l e R s m args below meth c Ae ne D tc S A H locs cells slots ls C h1 h2 h3 h3' h4 h5 hP hD hS hL
  subst hq
  exact lv_null C.1.1 C.1.2.1  hd  (h p l e R s m args below meth c Ae ne D tc S A H locs cells slots ls C h1 h2 h3 h3' h4 h5 hP hD hS hL)
theorem J_iadd {x y : Int32} (hd : decode M.1 pc = .ok (.iadd, 1))  (hq : pc + 1 = q) (h : J X M d kc ks F q lv (.int (x + y) :: st) n σ) : J X M d kc ks F pc lv (.int y :: .int x :: st) n σ := by
  intro p l e R s m args below meth c Ae ne D tc S A H locs cells slots ls C h1 h2 h3 h3' h4 h5 hP hD hS hL
  subst hq
  exact lv_iadd C.1.1 C.1.2.1  hd  (h p l e R s m args below meth c Ae ne D tc S A H locs cells slots ls C h1 h2 h3 h3' h4 h5 hP hD hS hL)
theorem J_isub {x y : Int32} (hd : decode M.1 pc = .ok (.isub, 1))  (hq : pc + 1 = q) (h : J X M d kc ks F q lv (.int (x - y) :: st) n σ) : J X M d kc ks F pc lv (.int y :: .int x :: st) n σ := by
  intro p l e R s m args below meth c Ae ne D tc S A H locs cells slots ls C h1 h2 h3 h3' h4 h5 hP hD hS hL
  subst hq
  exact lv_isub C.1.1 C.1.2.1  hd  (h p l e R s m args below meth c Ae ne D tc S A H locs cells slots ls C h1 h2 h3 h3' h4 h5 hP hD hS hL)
theorem J_imul {x y : Int32} (hd : decode M.1 pc = .ok (.imul, 1))  (hq : pc + 1 = q) (h : J X M d kc ks F q lv (.int (x * y) :: st) n σ) : J X M d kc ks F pc lv (.int y :: .int x :: st) n σ := by
  intro p l e R s m args below meth c Ae ne D tc S A H locs cells slots ls C h1 h2 h3 h3' h4 h5 hP hD hS hL
  subst hq
  exact lv_imul C.1.1 C.1.2.1  hd  (h p l e R s m args below meth c Ae ne D tc S A H locs cells slots ls C h1 h2 h3 h3' h4 h5 hP hD hS hL)
theorem J_iand {x y : Int32} (hd : decode M.1 pc = .ok (.iand, 1))  (hq : pc + 1 = q) (h : J X M d kc ks F q lv (.int (x &&& y) :: st) n σ) : J X M d kc ks F pc lv (.int y :: .int x :: st) n σ := by
  intro p l e R s m args below meth c Ae ne D tc S A H locs cells slots ls C h1 h2 h3 h3' h4 h5 hP hD hS hL
  subst hq
  exact lv_iand C.1.1 C.1.2.1  hd  (h p l e R s m args below meth c Ae ne D tc S A H locs cells slots ls C h1 h2 h3 h3' h4 h5 hP hD hS hL)
theorem J_ior {x y : Int32} (hd : decode M.1 pc = .ok (.ior, 1))  (hq : pc + 1 = q) (h : J X M d kc ks F q lv (.int (x ||| y) :: st) n σ) : J X M d kc ks F pc lv (.int y :: .int x :: st) n σ := by
  intro p l e R s m args below meth c Ae ne D tc S A H locs cells slots ls C h1 h2 h3 h3' h4 h5 hP hD hS hL
  subst hq
  exact lv_ior C.1.1 C.1.2.1  hd  (h p l e R s m args below meth c Ae ne D tc S A H locs cells slots ls C h1 h2 h3 h3' h4 h5 hP hD hS hL)
theorem J_ixor {x y : Int32} (hd : decode M.1 pc = .ok (.ixor, 1))  (hq : pc + 1 = q) (h : J X M d kc ks F q lv (.int (x ^^^ y) :: st) n σ) : J X M d kc ks F pc lv (.int y :: .int x :: st) n σ := by
  intro p l e R s m args below meth c Ae ne D tc S A H locs cells slots ls C h1 h2 h3 h3' h4 h5 hP hD hS hL
  subst hq
  exact lv_ixor C.1.1 C.1.2.1  hd  (h p l e R s m args below meth c Ae ne D tc S A H locs cells slots ls C h1 h2 h3 h3' h4 h5 hP hD hS hL)
theorem J_ishl {x y : Int32} (hd : decode M.1 pc = .ok (.ishl, 1))  (hq : pc + 1 = q) (h : J X M d kc ks F q lv (.int (shlI x y) :: st) n σ) : J X M d kc ks F pc lv (.int y :: .int x :: st) n σ := by
  intro p l e R s m args below meth c Ae ne D tc S A H locs cells slots ls C h1 h2 h3 h3' h4 h5 hP hD hS hL
  subst hq
  exact lv_ishl C.1.1 C.1.2.1  hd  (h p l e R s m args below meth c Ae ne D tc S A H locs cells slots ls C h1 h2 h3 h3' h4 h5 hP hD hS hL)
theorem J_ishr {x y : Int32} (hd : decode M.1 pc = .ok (.ishr, 1))  (hq : pc + 1 = q) (h : J X M d kc ks F q lv (.int (shrI x y) :: st) n σ) : J X M d kc ks F pc lv (.int y :: .int x :: st) n σ := by
  intro p l e R s m args below meth c Ae ne D tc S A H locs cells slots ls C h1 h2 h3 h3' h4 h5 hP hD hS hL
  subst hq
  exact lv_ishr C.1.1 C.1.2.1  hd  (h p l e R s m args below meth c Ae ne D tc S A H locs cells slots ls C h1 h2 h3 h3' h4 h5 hP hD hS hL)
theorem J_ineg {x : Int32} (hd : decode M.1 pc = .ok (.ineg, 1))  (hq : pc + 1 = q) (h : J X M d kc ks F q lv (.int (-x) :: st) n σ) : J X M d kc ks F pc lv (.int x :: st) n σ := by
  intro p l e R s m args below meth c Ae ne D tc S A H locs cells slots ls C h1 h2 h3 h3' h4 h5 hP hD hS hL
  subst hq
  exact lv_ineg C.1.1 C.1.2.1  hd  (h p l e R s m args below meth c Ae ne D tc S A H locs cells slots ls C h1 h2 h3 h3' h4 h5 hP hD hS hL)
theorem J_iushr {x y : Int32} (hd : decode M.1 pc = .ok (.iushr, 1))  (hq : pc + 1 = q) (h : J X M d kc ks F q lv (.int (ushrI x y) :: st) n σ) : J X M d kc ks F pc lv (.int y :: .int x :: st) n σ := by
  intro p l e R s m args below meth c Ae ne D tc S A H locs cells slots ls C h1 h2 h3 h3' h4 h5 hP hD hS hL
  subst hq
  exact lv_iushr C.1.1 C.1.2.1  hd rfl (h p l e R s m args below meth c Ae ne D tc S A H locs cells slots ls C h1 h2 h3 h3' h4 h5 hP hD hS hL)
theorem J_idiv {x y : Int32} (hd : decode M.1 pc = .ok (.idiv, 1)) (hne : ¬ y = 0) (hq : pc + 1 = q) (h : J X M d kc ks F q lv (.int (x / y) :: st) n σ) : J X M d kc ks F pc lv (.int y :: .int x :: st) n σ := by
  intro p l e R s m args below meth c Ae ne D tc S A H locs cells slots ls C h1 h2 h3 h3' h4 h5 hP hD hS hL
  subst hq
  exact lv_idiv C.1.1 C.1.2.1  hd hne (h p l e R s m args below meth c Ae ne D tc S A H locs cells slots ls C h1 h2 h3 h3' h4 h5 hP hD hS hL)
theorem J_irem {x y : Int32} (hd : decode M.1 pc = .ok (.irem, 1)) (hne : ¬ y = 0) (hq : pc + 1 = q) (h : J X M d kc ks F q lv (.int (remI x y) :: st) n σ) : J X M d kc ks F pc lv (.int y :: .int x :: st) n σ := by
  intro p l e R s m args below meth c Ae ne D tc S A H locs cells slots ls C h1 h2 h3 h3' h4 h5 hP hD hS hL
  subst hq
  exact lv_irem C.1.1 C.1.2.1  hd hne (h p l e R s m args below meth c Ae ne D tc S A H locs cells slots ls C h1 h2 h3 h3' h4 h5 hP hD hS hL)
theorem J_ladd {x y : Int64} (hd : decode M.1 pc = .ok (.ladd, 1))  (hq : pc + 1 = q) (h : J X M d kc ks F q lv (.long (x + y) :: st) n σ) : J X M d kc ks F pc lv (.long y :: .long x :: st) n σ := by
  intro p l e R s m args below meth c Ae ne D tc S A H locs cells slots ls C h1 h2 h3 h3' h4 h5 hP hD hS hL
  subst hq
  exact lv_ladd C.1.1 C.1.2.1  hd  (h p l e R s m args below meth c Ae ne D tc S A H locs cells slots ls C h1 h2 h3 h3' h4 h5 hP hD hS hL)
theorem J_lsub {x y : Int64} (hd : decode M.1 pc = .ok (.lsub, 1))  (hq : pc + 1 = q) (h : J X M d kc ks F q lv (.long (x - y) :: st) n σ) : J X M d kc ks F pc lv (.long y :: .long x :: st) n σ := by
  intro p l e R s m args below meth c Ae ne D tc S A H locs cells slots ls C h1 h2 h3 h3' h4 h5 hP hD hS hL
  subst hq
  exact lv_lsub C.1.1 C.1.2.1  hd  (h p l e R s m args below meth c Ae ne D tc S A H locs cells slots ls C h1 h2 h3 h3' h4 h5 hP hD hS hL)
theorem J_lmul {x y : Int64} (hd : decode M.1 pc = .ok (.lmul, 1))  (hq : pc + 1 = q) (h : J X M d kc ks F q lv (.long (x * y) :: st) n σ) : J X M d kc ks F pc lv (.long y :: .long x :: st) n σ := by
  intro p l e R s m args below meth c Ae ne D tc S A H locs cells slots ls C h1 h2 h3 h3' h4 h5 hP hD hS hL
  subst hq
  exact lv_lmul C.1.1 C.1.2.1  hd  (h p l e R s m args below meth c Ae ne D tc S A H locs cells slots ls C h1 h2 h3 h3' h4 h5 hP hD hS hL)
theorem J_land {x y : Int64} (hd : decode M.1 pc = .ok (.land, 1))  (hq : pc + 1 = q) (h : J X M d kc ks F q lv (.long (x &&& y) :: st) n σ) : J X M d kc ks F pc lv (.long y :: .long x :: st) n σ := by
  intro p l e R s m args below meth c Ae ne D tc S A H locs cells slots ls C h1 h2 h3 h3' h4 h5 hP hD hS hL
  subst hq
  exact lv_land C.1.1 C.1.2.1  hd  (h p l e R s m args below meth c Ae ne D tc S A H locs cells slots ls C h1 h2 h3 h3' h4 h5 hP hD hS hL)
theorem J_lor {x y : Int64} (hd : decode M.1 pc = .ok (.lor, 1))  (hq : pc + 1 = q) (h : J X M d kc ks F q lv (.long (x ||| y) :: st) n σ) : J X M d kc ks F pc lv (.long y :: .long x :: st) n σ := by
  intro p l e R s m args below meth c Ae ne D tc S A H locs cells slots ls C h1 h2 h3 h3' h4 h5 hP hD hS hL
  subst hq
  exact lv_lor C.1.1 C.1.2.1  hd  (h p l e R s m args below meth c Ae ne D tc S A H locs cells slots ls C h1 h2 h3 h3' h4 h5 hP hD hS hL)
theorem J_lxor {x y : Int64} (hd : decode M.1 pc = .ok (.lxor, 1))  (hq : pc + 1 = q) (h : J X M d kc ks F q lv (.long (x ^^^ y) :: st) n σ) : J X M d kc ks F pc lv (.long y :: .long x :: st) n σ := by
  intro p l e R s m args below meth c Ae ne D tc S A H locs cells slots ls C h1 h2 h3 h3' h4 h5 hP hD hS hL
  subst hq
  exact lv_lxor C.1.1 C.1.2.1  hd  (h p l e R s m args below meth c Ae ne D tc S A H locs cells slots ls C h1 h2 h3 h3' h4 h5 hP hD hS hL)
theorem J_ldiv {x y : Int64} (hd : decode M.1 pc = .ok (.ldiv, 1)) (hne : ¬ y = 0) (hq : pc + 1 = q) (h : J X M d kc ks F q lv (.long (x / y) :: st) n σ) : J X M d kc ks F pc lv (.long y :: .long x :: st) n σ := by
  intro p l e R s m args below meth c Ae ne D tc S A H locs cells slots ls C h1 h2 h3 h3' h4 h5 hP hD hS hL
  subst hq
  exact lv_ldiv C.1.1 C.1.2.1  hd hne (h p l e R s m args below meth c Ae ne D tc S A H locs cells slots ls C h1 h2 h3 h3' h4 h5 hP hD hS hL)
theorem J_lrem {x y : Int64} (hd : decode M.1 pc = .ok (.lrem, 1)) (hne : ¬ y = 0) (hq : pc + 1 = q) (h : J X M d kc ks F q lv (.long (remL x y) :: st) n σ) : J X M d kc ks F pc lv (.long y :: .long x :: st) n σ := by
  intro p l e R s m args below meth c Ae ne D tc S A H locs cells slots ls C h1 h2 h3 h3' h4 h5 hP hD hS hL
  subst hq
  exact lv_lrem C.1.1 C.1.2.1  hd hne (h p l e R s m args below meth c Ae ne D tc S A H locs cells slots ls C h1 h2 h3 h3' h4 h5 hP hD hS hL)
theorem J_lushr {x : Int64} {y : Int32} (hd : decode M.1 pc = .ok (.lushr, 1))  (hq : pc + 1 = q) (h : J X M d kc ks F q lv (.long (ushrL x y) :: st) n σ) : J X M d kc ks F pc lv (.int y :: .long x :: st) n σ := by
  intro p l e R s m args below meth c Ae ne D tc S A H locs cells slots ls C h1 h2 h3 h3' h4 h5 hP hD hS hL
  subst hq
  exact lv_lushr C.1.1 C.1.2.1  hd rfl (h p l e R s m args below meth c Ae ne D tc S A H locs cells slots ls C h1 h2 h3 h3' h4 h5 hP hD hS hL)
theorem J_lshl {x : Int64} {y : Int32} (hd : decode M.1 pc = .ok (.lshl, 1))  (hq : pc + 1 = q) (h : J X M d kc ks F q lv (.long (shlL x y) :: st) n σ) : J X M d kc ks F pc lv (.int y :: .long x :: st) n σ := by
  intro p l e R s m args below meth c Ae ne D tc S A H locs cells slots ls C h1 h2 h3 h3' h4 h5 hP hD hS hL
  subst hq
  exact lv_lshl C.1.1 C.1.2.1  hd rfl (h p l e R s m args below meth c Ae ne D tc S A H locs cells slots ls C h1 h2 h3 h3' h4 h5 hP hD hS hL)
theorem J_i2l {x : Int32} (hd : decode M.1 pc = .ok (.i2l, 1))  (hq : pc + 1 = q) (h : J X M d kc ks F q lv (.long x.toInt64 :: st) n σ) : J X M d kc ks F pc lv (.int x :: st) n σ := by
  intro p l e R s m args below meth c Ae ne D tc S A H locs cells slots ls C h1 h2 h3 h3' h4 h5 hP hD hS hL
  subst hq
  exact lv_i2l C.1.1 C.1.2.1  hd rfl (h p l e R s m args below meth c Ae ne D tc S A H locs cells slots ls C h1 h2 h3 h3' h4 h5 hP hD hS hL)
theorem J_l2i {x : Int64} (hd : decode M.1 pc = .ok (.l2i, 1))  (hq : pc + 1 = q) (h : J X M d kc ks F q lv (.int x.toInt32 :: st) n σ) : J X M d kc ks F pc lv (.long x :: st) n σ := by
  intro p l e R s m args below meth c Ae ne D tc S A H locs cells slots ls C h1 h2 h3 h3' h4 h5 hP hD hS hL
  subst hq
  exact lv_l2i C.1.1 C.1.2.1  hd rfl (h p l e R s m args below meth c Ae ne D tc S A H locs cells slots ls C h1 h2 h3 h3' h4 h5 hP hD hS hL)
theorem J_i2b {x : Int32} (hd : decode M.1 pc = .ok (.i2b, 1))  (hq : pc + 1 = q) (h : J X M d kc ks F q lv (.int (byI x) :: st) n σ) : J X M d kc ks F pc lv (.int x :: st) n σ := by
  intro p l e R s m args below meth c Ae ne D tc S A H locs cells slots ls C h1 h2 h3 h3' h4 h5 hP hD hS hL
  subst hq
  exact lv_i2b C.1.1 C.1.2.1  hd rfl (h p l e R s m args below meth c Ae ne D tc S A H locs cells slots ls C h1 h2 h3 h3' h4 h5 hP hD hS hL)
theorem J_i2c {x : Int32} (hd : decode M.1 pc = .ok (.i2c, 1))  (hq : pc + 1 = q) (h : J X M d kc ks F q lv (.int (chI x) :: st) n σ) : J X M d kc ks F pc lv (.int x :: st) n σ := by
  intro p l e R s m args below meth c Ae ne D tc S A H locs cells slots ls C h1 h2 h3 h3' h4 h5 hP hD hS hL
  subst hq
  exact lv_i2c C.1.1 C.1.2.1  hd rfl (h p l e R s m args below meth c Ae ne D tc S A H locs cells slots ls C h1 h2 h3 h3' h4 h5 hP hD hS hL)
theorem J_lcmp {x y : Int64} (hd : decode M.1 pc = .ok (.lcmp, 1))  (hq : pc + 1 = q) (h : J X M d kc ks F q lv (.int (lg_cmp x y) :: st) n σ) : J X M d kc ks F pc lv (.long y :: .long x :: st) n σ := by
  intro p l e R s m args below meth c Ae ne D tc S A H locs cells slots ls C h1 h2 h3 h3' h4 h5 hP hD hS hL
  subst hq
  exact W.lcmp C.1.1 C.1.2.1  hd  (h p l e R s m args below meth c Ae ne D tc S A H locs cells slots ls C h1 h2 h3 h3' h4 h5 hP hD hS hL)
theorem J_dup {v : Value} (hd : decode M.1 pc = .ok (.dup, 1)) (hv : v.category = 1) (hq : pc + 1 = q) (h : J X M d kc ks F q lv (v :: v :: st) n σ) : J X M d kc ks F pc lv (v :: st) n σ := by
  intro p l e R s m args below meth c Ae ne D tc S A H locs cells slots ls C h1 h2 h3 h3' h4 h5 hP hD hS hL
  subst hq
  exact lv_dup C.1.1 C.1.2.1  hd ((cv_cat A v).trans hv) (h p l e R s m args below meth c Ae ne D tc S A H locs cells slots ls C h1 h2 h3 h3' h4 h5 hP hD hS hL)
theorem J_pop {v : Value} (hd : decode M.1 pc = .ok (.pop, 1)) (hv : v.category = 1) (hq : pc + 1 = q) (h : J X M d kc ks F q lv (st) n σ) : J X M d kc ks F pc lv (v :: st) n σ := by
  intro p l e R s m args below meth c Ae ne D tc S A H locs cells slots ls C h1 h2 h3 h3' h4 h5 hP hD hS hL
  subst hq
  exact lv_pop C.1.1 C.1.2.1  hd ((cv_cat A v).trans hv) (h p l e R s m args below meth c Ae ne D tc S A H locs cells slots ls C h1 h2 h3 h3' h4 h5 hP hD hS hL)
theorem J_dup2 {v w : Value} (hd : decode M.1 pc = .ok (.dup2, 1)) (hv : v.category = 1) (hw : w.category = 1) (hq : pc + 1 = q) (h : J X M d kc ks F q lv (v :: w :: v :: w :: st) n σ) : J X M d kc ks F pc lv (v :: w :: st) n σ := by
  intro p l e R s m args below meth c Ae ne D tc S A H locs cells slots ls C h1 h2 h3 h3' h4 h5 hP hD hS hL
  subst hq
  exact lv_dup2_11 C.1.1 C.1.2.1  hd ((cv_cat A v).trans hv) ((cv_cat A w).trans hw) (h p l e R s m args below meth c Ae ne D tc S A H locs cells slots ls C h1 h2 h3 h3' h4 h5 hP hD hS hL)
theorem J_dup_x1 {v w : Value} (hd : decode M.1 pc = .ok (.dup_x1, 1)) (hv : v.category = 1) (hw : w.category = 1) (hq : pc + 1 = q) (h : J X M d kc ks F q lv (v :: w :: v :: st) n σ) : J X M d kc ks F pc lv (v :: w :: st) n σ := by
  intro p l e R s m args below meth c Ae ne D tc S A H locs cells slots ls C h1 h2 h3 h3' h4 h5 hP hD hS hL
  subst hq
  exact lv_dup_x1 C.1.1 C.1.2.1  hd ((cv_cat A v).trans hv) ((cv_cat A w).trans hw) (h p l e R s m args below meth c Ae ne D tc S A H locs cells slots ls C h1 h2 h3 h3' h4 h5 hP hD hS hL)
theorem J_if_eq {x : Int32} {off : Int} {tgt : Nat} (hd : decode M.1 pc = .ok (.ifCond .eq off, 3)) (ht : (pc : Int) + off = (tgt : Int)) (hq : pc + 3 = q) (kt : x = 0 → J X M d kc ks F tgt lv st n σ) (kf : ¬ x = 0 → J X M d kc ks F q lv st n σ) : J X M d kc ks F pc lv (.int x :: st) n σ := by
  intro p l e R s m args below meth c Ae ne D tc S A H locs cells slots ls C h1 h2 h3 h3' h4 h5 hP hD hS hL
  subst hq
  exact lv_if_eq C.1.1 C.1.2.1 hd ht (fun a => kt a p l e R s m args below meth c Ae ne D tc S A H locs cells slots ls C h1 h2 h3 h3' h4 h5 hP hD hS hL) (fun a => kf a p l e R s m args below meth c Ae ne D tc S A H locs cells slots ls C h1 h2 h3 h3' h4 h5 hP hD hS hL)
theorem J_icmp_eq {x y : Int32} {off : Int} {tgt : Nat} (hd : decode M.1 pc = .ok (.if_icmp .eq off, 3)) (ht : (pc : Int) + off = (tgt : Int)) (hq : pc + 3 = q) (kt : x = y → J X M d kc ks F tgt lv st n σ) (kf : ¬ x = y → J X M d kc ks F q lv st n σ) : J X M d kc ks F pc lv (.int y :: .int x :: st) n σ := by
  intro p l e R s m args below meth c Ae ne D tc S A H locs cells slots ls C h1 h2 h3 h3' h4 h5 hP hD hS hL
  subst hq
  exact lv_icmp_eq C.1.1 C.1.2.1 hd ht (fun a => kt a p l e R s m args below meth c Ae ne D tc S A H locs cells slots ls C h1 h2 h3 h3' h4 h5 hP hD hS hL) (fun a => kf a p l e R s m args below meth c Ae ne D tc S A H locs cells slots ls C h1 h2 h3 h3' h4 h5 hP hD hS hL)
theorem J_if_ne {x : Int32} {off : Int} {tgt : Nat} (hd : decode M.1 pc = .ok (.ifCond .ne off, 3)) (ht : (pc : Int) + off = (tgt : Int)) (hq : pc + 3 = q) (kt : ¬ x = 0 → J X M d kc ks F tgt lv st n σ) (kf : x = 0 → J X M d kc ks F q lv st n σ) : J X M d kc ks F pc lv (.int x :: st) n σ := by
  intro p l e R s m args below meth c Ae ne D tc S A H locs cells slots ls C h1 h2 h3 h3' h4 h5 hP hD hS hL
  subst hq
  exact lv_if_ne C.1.1 C.1.2.1 hd ht (fun a => kt a p l e R s m args below meth c Ae ne D tc S A H locs cells slots ls C h1 h2 h3 h3' h4 h5 hP hD hS hL) (fun a => kf a p l e R s m args below meth c Ae ne D tc S A H locs cells slots ls C h1 h2 h3 h3' h4 h5 hP hD hS hL)
theorem J_icmp_ne {x y : Int32} {off : Int} {tgt : Nat} (hd : decode M.1 pc = .ok (.if_icmp .ne off, 3)) (ht : (pc : Int) + off = (tgt : Int)) (hq : pc + 3 = q) (kt : ¬ x = y → J X M d kc ks F tgt lv st n σ) (kf : x = y → J X M d kc ks F q lv st n σ) : J X M d kc ks F pc lv (.int y :: .int x :: st) n σ := by
  intro p l e R s m args below meth c Ae ne D tc S A H locs cells slots ls C h1 h2 h3 h3' h4 h5 hP hD hS hL
  subst hq
  exact lv_icmp_ne C.1.1 C.1.2.1 hd ht (fun a => kt a p l e R s m args below meth c Ae ne D tc S A H locs cells slots ls C h1 h2 h3 h3' h4 h5 hP hD hS hL) (fun a => kf a p l e R s m args below meth c Ae ne D tc S A H locs cells slots ls C h1 h2 h3 h3' h4 h5 hP hD hS hL)
theorem J_if_lt {x : Int32} {off : Int} {tgt : Nat} (hd : decode M.1 pc = .ok (.ifCond .lt off, 3)) (ht : (pc : Int) + off = (tgt : Int)) (hq : pc + 3 = q) (kt : x < 0 → J X M d kc ks F tgt lv st n σ) (kf : ¬ x < 0 → J X M d kc ks F q lv st n σ) : J X M d kc ks F pc lv (.int x :: st) n σ := by
  intro p l e R s m args below meth c Ae ne D tc S A H locs cells slots ls C h1 h2 h3 h3' h4 h5 hP hD hS hL
  subst hq
  exact lv_if_lt C.1.1 C.1.2.1 hd ht (fun a => kt a p l e R s m args below meth c Ae ne D tc S A H locs cells slots ls C h1 h2 h3 h3' h4 h5 hP hD hS hL) (fun a => kf a p l e R s m args below meth c Ae ne D tc S A H locs cells slots ls C h1 h2 h3 h3' h4 h5 hP hD hS hL)
theorem J_icmp_lt {x y : Int32} {off : Int} {tgt : Nat} (hd : decode M.1 pc = .ok (.if_icmp .lt off, 3)) (ht : (pc : Int) + off = (tgt : Int)) (hq : pc + 3 = q) (kt : x < y → J X M d kc ks F tgt lv st n σ) (kf : ¬ x < y → J X M d kc ks F q lv st n σ) : J X M d kc ks F pc lv (.int y :: .int x :: st) n σ := by
  intro p l e R s m args below meth c Ae ne D tc S A H locs cells slots ls C h1 h2 h3 h3' h4 h5 hP hD hS hL
  subst hq
  exact lv_icmp_lt C.1.1 C.1.2.1 hd ht (fun a => kt a p l e R s m args below meth c Ae ne D tc S A H locs cells slots ls C h1 h2 h3 h3' h4 h5 hP hD hS hL) (fun a => kf a p l e R s m args below meth c Ae ne D tc S A H locs cells slots ls C h1 h2 h3 h3' h4 h5 hP hD hS hL)
theorem J_if_ge {x : Int32} {off : Int} {tgt : Nat} (hd : decode M.1 pc = .ok (.ifCond .ge off, 3)) (ht : (pc : Int) + off = (tgt : Int)) (hq : pc + 3 = q) (kt : 0 ≤ x → J X M d kc ks F tgt lv st n σ) (kf : ¬ 0 ≤ x → J X M d kc ks F q lv st n σ) : J X M d kc ks F pc lv (.int x :: st) n σ := by
  intro p l e R s m args below meth c Ae ne D tc S A H locs cells slots ls C h1 h2 h3 h3' h4 h5 hP hD hS hL
  subst hq
  exact lv_if_ge C.1.1 C.1.2.1 hd ht (fun a => kt a p l e R s m args below meth c Ae ne D tc S A H locs cells slots ls C h1 h2 h3 h3' h4 h5 hP hD hS hL) (fun a => kf a p l e R s m args below meth c Ae ne D tc S A H locs cells slots ls C h1 h2 h3 h3' h4 h5 hP hD hS hL)
theorem J_icmp_ge {x y : Int32} {off : Int} {tgt : Nat} (hd : decode M.1 pc = .ok (.if_icmp .ge off, 3)) (ht : (pc : Int) + off = (tgt : Int)) (hq : pc + 3 = q) (kt : y ≤ x → J X M d kc ks F tgt lv st n σ) (kf : ¬ y ≤ x → J X M d kc ks F q lv st n σ) : J X M d kc ks F pc lv (.int y :: .int x :: st) n σ := by
  intro p l e R s m args below meth c Ae ne D tc S A H locs cells slots ls C h1 h2 h3 h3' h4 h5 hP hD hS hL
  subst hq
  exact lv_icmp_ge C.1.1 C.1.2.1 hd ht (fun a => kt a p l e R s m args below meth c Ae ne D tc S A H locs cells slots ls C h1 h2 h3 h3' h4 h5 hP hD hS hL) (fun a => kf a p l e R s m args below meth c Ae ne D tc S A H locs cells slots ls C h1 h2 h3 h3' h4 h5 hP hD hS hL)
theorem J_if_gt {x : Int32} {off : Int} {tgt : Nat} (hd : decode M.1 pc = .ok (.ifCond .gt off, 3)) (ht : (pc : Int) + off = (tgt : Int)) (hq : pc + 3 = q) (kt : 0 < x → J X M d kc ks F tgt lv st n σ) (kf : ¬ 0 < x → J X M d kc ks F q lv st n σ) : J X M d kc ks F pc lv (.int x :: st) n σ := by
  intro p l e R s m args below meth c Ae ne D tc S A H locs cells slots ls C h1 h2 h3 h3' h4 h5 hP hD hS hL
  subst hq
  exact lv_if_gt C.1.1 C.1.2.1 hd ht (fun a => kt a p l e R s m args below meth c Ae ne D tc S A H locs cells slots ls C h1 h2 h3 h3' h4 h5 hP hD hS hL) (fun a => kf a p l e R s m args below meth c Ae ne D tc S A H locs cells slots ls C h1 h2 h3 h3' h4 h5 hP hD hS hL)
theorem J_icmp_gt {x y : Int32} {off : Int} {tgt : Nat} (hd : decode M.1 pc = .ok (.if_icmp .gt off, 3)) (ht : (pc : Int) + off = (tgt : Int)) (hq : pc + 3 = q) (kt : y < x → J X M d kc ks F tgt lv st n σ) (kf : ¬ y < x → J X M d kc ks F q lv st n σ) : J X M d kc ks F pc lv (.int y :: .int x :: st) n σ := by
  intro p l e R s m args below meth c Ae ne D tc S A H locs cells slots ls C h1 h2 h3 h3' h4 h5 hP hD hS hL
  subst hq
  exact lv_icmp_gt C.1.1 C.1.2.1 hd ht (fun a => kt a p l e R s m args below meth c Ae ne D tc S A H locs cells slots ls C h1 h2 h3 h3' h4 h5 hP hD hS hL) (fun a => kf a p l e R s m args below meth c Ae ne D tc S A H locs cells slots ls C h1 h2 h3 h3' h4 h5 hP hD hS hL)
theorem J_if_le {x : Int32} {off : Int} {tgt : Nat} (hd : decode M.1 pc = .ok (.ifCond .le off, 3)) (ht : (pc : Int) + off = (tgt : Int)) (hq : pc + 3 = q) (kt : x ≤ 0 → J X M d kc ks F tgt lv st n σ) (kf : ¬ x ≤ 0 → J X M d kc ks F q lv st n σ) : J X M d kc ks F pc lv (.int x :: st) n σ := by
  intro p l e R s m args below meth c Ae ne D tc S A H locs cells slots ls C h1 h2 h3 h3' h4 h5 hP hD hS hL
  subst hq
  exact lv_if_le C.1.1 C.1.2.1 hd ht (fun a => kt a p l e R s m args below meth c Ae ne D tc S A H locs cells slots ls C h1 h2 h3 h3' h4 h5 hP hD hS hL) (fun a => kf a p l e R s m args below meth c Ae ne D tc S A H locs cells slots ls C h1 h2 h3 h3' h4 h5 hP hD hS hL)
theorem J_icmp_le {x y : Int32} {off : Int} {tgt : Nat} (hd : decode M.1 pc = .ok (.if_icmp .le off, 3)) (ht : (pc : Int) + off = (tgt : Int)) (hq : pc + 3 = q) (kt : x ≤ y → J X M d kc ks F tgt lv st n σ) (kf : ¬ x ≤ y → J X M d kc ks F q lv st n σ) : J X M d kc ks F pc lv (.int y :: .int x :: st) n σ := by
  intro p l e R s m args below meth c Ae ne D tc S A H locs cells slots ls C h1 h2 h3 h3' h4 h5 hP hD hS hL
  subst hq
  exact lv_icmp_le C.1.1 C.1.2.1 hd ht (fun a => kt a p l e R s m args below meth c Ae ne D tc S A H locs cells slots ls C h1 h2 h3 h3' h4 h5 hP hD hS hL) (fun a => kf a p l e R s m args below meth c Ae ne D tc S A H locs cells slots ls C h1 h2 h3 h3' h4 h5 hP hD hS hL)
theorem J_goto {off : Int} {tgt : Nat} (hd : decode M.1 pc = .ok (.goto off, 3)) (ht : (pc : Int) + off = (tgt : Int)) (h : J X M d kc ks F tgt lv st n σ) : J X M d kc ks F pc lv st n σ := by
  intro p l e R s m args below meth c Ae ne D tc S A H locs cells slots ls C h1 h2 h3 h3' h4 h5 hP hD hS hL
  exact lv_goto C.1.1 C.1.2.1 hd ht (h p l e R s m args below meth c Ae ne D tc S A H locs cells slots ls C h1 h2 h3 h3' h4 h5 hP hD hS hL)
theorem J_ifnull_r {i : Nat} {off : Int} (hd : decode M.1 pc = .ok (.ifnull off, 3)) (hq : pc + 3 = q) (h : J X M d kc ks F q lv st n σ) : J X M d kc ks F pc lv (.ref i :: st) n σ := by
  intro p l e R s m args below meth c Ae ne D tc S A H locs cells slots ls C h1 h2 h3 h3' h4 h5 hP hD hS hL
  subst hq
  exact lv_ifnull C.1.1 C.1.2.1 hd (h p l e R s m args below meth c Ae ne D tc S A H locs cells slots ls C h1 h2 h3 h3' h4 h5 hP hD hS hL)
theorem J_ifnonnull_r {i : Nat} {off : Int} {tgt : Nat} (hd : decode M.1 pc = .ok (.ifnonnull off, 3)) (ht : (pc : Int) + off = (tgt : Int)) (h : J X M d kc ks F tgt lv st n σ) : J X M d kc ks F pc lv (.ref i :: st) n σ := by
  intro p l e R s m args below meth c Ae ne D tc S A H locs cells slots ls C h1 h2 h3 h3' h4 h5 hP hD hS hL
  exact lv_ifnonnull C.1.1 C.1.2.1 hd ht (h p l e R s m args below meth c Ae ne D tc S A H locs cells slots ls C h1 h2 h3 h3' h4 h5 hP hD hS hL)
theorem J_ifnull_n {off : Int} {tgt : Nat} (hd : decode M.1 pc = .ok (.ifnull off, 3)) (ht : (pc : Int) + off = (tgt : Int)) (h : J X M d kc ks F tgt lv st n σ) : J X M d kc ks F pc lv (.null :: st) n σ := by
  intro p l e R s m args below meth c Ae ne D tc S A H locs cells slots ls C h1 h2 h3 h3' h4 h5 hP hD hS hL
  exact lv_ifnullN C.1.1 C.1.2.1 hd ht (h p l e R s m args below meth c Ae ne D tc S A H locs cells slots ls C h1 h2 h3 h3' h4 h5 hP hD hS hL)
theorem J_ldc {idx : Nat} {x : Int32} (hd : decode M.1 pc = .ok (.ldc idx, 2)) (hw : Cond.constant M.2.1 idx x ∈ WS) (hq : pc + 2 = q) (h : J X M d kc ks F q lv (.int x :: st) n σ) : J X M d kc ks F pc lv st n σ := by
  intro p l e R s m args below meth c Ae ne D tc S A H locs cells slots ls C h1 h2 h3 h3' h4 h5 hP hD hS hL
  subst hq
  exact lv_ldc C.1.1 C.1.2.1 C.1.2.2.2.1 (C.1.2.2.2.2 _ hw) hd (h p l e R s m args below meth c Ae ne D tc S A H locs cells slots ls C h1 h2 h3 h3' h4 h5 hP hD hS hL)
theorem J_ldcw {idx : Nat} {x : Int32} (hd : decode M.1 pc = .ok (.ldc_w idx, 3)) (hw : Cond.constant M.2.1 idx x ∈ WS) (hq : pc + 3 = q) (h : J X M d kc ks F q lv (.int x :: st) n σ) : J X M d kc ks F pc lv st n σ := by
  intro p l e R s m args below meth c Ae ne D tc S A H locs cells slots ls C h1 h2 h3 h3' h4 h5 hP hD hS hL
  subst hq
  exact lv_ldcw C.1.1 C.1.2.1 C.1.2.2.2.1 (C.1.2.2.2.2 _ hw) hd (h p l e R s m args below meth c Ae ne D tc S A H locs cells slots ls C h1 h2 h3 h3' h4 h5 hP hD hS hL)
theorem J_ldc2 {idx : Nat} {x : Int64} (hd : decode M.1 pc = .ok (.ldc2_w idx, 3)) (hw : Cond.constantLong M.2.1 idx x ∈ WS) (hq : pc + 3 = q) (h : J X M d kc ks F q lv (.long x :: st) n σ) : J X M d kc ks F pc lv st n σ := by
  intro p l e R s m args below meth c Ae ne D tc S A H locs cells slots ls C h1 h2 h3 h3' h4 h5 hP hD hS hL
  subst hq
  exact lv_ldc2 C.1.1 C.1.2.1 C.1.2.2.2.1 (C.1.2.2.2.2 _ hw) hd (h p l e R s m args below meth c Ae ne D tc S A H locs cells slots ls C h1 h2 h3 h3' h4 h5 hP hD hS hL)
theorem J_iload_n {k : Fin 4} {i z : Nat} {x : Int32} (hd : decode M.1 pc = .ok (.iload_n k, 1)) (hi : (k : Nat) = i) (hl : lv[z]? = some (i, .int x)) (hq : pc + 1 = q) (h : J X M d kc ks F q lv (.int x :: st) n σ) : J X M d kc ks F pc lv st n σ := by
  intro p l e R s m args below meth c Ae ne D tc S A H locs cells slots ls C h1 h2 h3 h3' h4 h5 hP hD hS hL
  subst hq
  exact lv_iload_n C.1.1 C.1.2.1 hd hi (lv_at hL z (by rw [List.getElem?_map, hl]; rfl)) (h p l e R s m args below meth c Ae ne D tc S A H locs cells slots ls C h1 h2 h3 h3' h4 h5 hP hD hS hL)
theorem J_iload {i z : Nat} {x : Int32} (hd : decode M.1 pc = .ok (.iload i, 2)) (hl : lv[z]? = some (i, .int x)) (hq : pc + 2 = q) (h : J X M d kc ks F q lv (.int x :: st) n σ) : J X M d kc ks F pc lv st n σ := by
  intro p l e R s m args below meth c Ae ne D tc S A H locs cells slots ls C h1 h2 h3 h3' h4 h5 hP hD hS hL
  subst hq
  exact lv_iload C.1.1 C.1.2.1 hd (lv_at hL z (by rw [List.getElem?_map, hl]; rfl)) (h p l e R s m args below meth c Ae ne D tc S A H locs cells slots ls C h1 h2 h3 h3' h4 h5 hP hD hS hL)
theorem J_lload_n {k : Fin 4} {i z : Nat} {x : Int64} (hd : decode M.1 pc = .ok (.lload_n k, 1)) (hi : (k : Nat) = i) (hl : lv[z]? = some (i, .long x)) (hq : pc + 1 = q) (h : J X M d kc ks F q lv (.long x :: st) n σ) : J X M d kc ks F pc lv st n σ := by
  intro p l e R s m args below meth c Ae ne D tc S A H locs cells slots ls C h1 h2 h3 h3' h4 h5 hP hD hS hL
  subst hq
  exact lv_lload_n C.1.1 C.1.2.1 hd hi (lv_at hL z (by rw [List.getElem?_map, hl]; rfl)) (h p l e R s m args below meth c Ae ne D tc S A H locs cells slots ls C h1 h2 h3 h3' h4 h5 hP hD hS hL)
theorem J_lload {i z : Nat} {x : Int64} (hd : decode M.1 pc = .ok (.lload i, 2)) (hl : lv[z]? = some (i, .long x)) (hq : pc + 2 = q) (h : J X M d kc ks F q lv (.long x :: st) n σ) : J X M d kc ks F pc lv st n σ := by
  intro p l e R s m args below meth c Ae ne D tc S A H locs cells slots ls C h1 h2 h3 h3' h4 h5 hP hD hS hL
  subst hq
  exact lv_lload C.1.1 C.1.2.1 hd (lv_at hL z (by rw [List.getElem?_map, hl]; rfl)) (h p l e R s m args below meth c Ae ne D tc S A H locs cells slots ls C h1 h2 h3 h3' h4 h5 hP hD hS hL)
theorem J_aload_n {k : Fin 4} {i z x : Nat} (hd : decode M.1 pc = .ok (.aload_n k, 1)) (hi : (k : Nat) = i) (hl : lv[z]? = some (i, .ref x)) (hq : pc + 1 = q) (h : J X M d kc ks F q lv (.ref x :: st) n σ) : J X M d kc ks F pc lv st n σ := by
  intro p l e R s m args below meth c Ae ne D tc S A H locs cells slots ls C h1 h2 h3 h3' h4 h5 hP hD hS hL
  subst hq
  exact lv_aload_n C.1.1 C.1.2.1 hd hi (lv_at hL z (by rw [List.getElem?_map, hl]; rfl)) (h p l e R s m args below meth c Ae ne D tc S A H locs cells slots ls C h1 h2 h3 h3' h4 h5 hP hD hS hL)
theorem J_aload {i z x : Nat} (hd : decode M.1 pc = .ok (.aload i, 2)) (hl : lv[z]? = some (i, .ref x)) (hq : pc + 2 = q) (h : J X M d kc ks F q lv (.ref x :: st) n σ) : J X M d kc ks F pc lv st n σ := by
  intro p l e R s m args below meth c Ae ne D tc S A H locs cells slots ls C h1 h2 h3 h3' h4 h5 hP hD hS hL
  subst hq
  exact lv_aload C.1.1 C.1.2.1 hd (lv_at hL z (by rw [List.getElem?_map, hl]; rfl)) (h p l e R s m args below meth c Ae ne D tc S A H locs cells slots ls C h1 h2 h3 h3' h4 h5 hP hD hS hL)
theorem lv_fm1 (A : Nat → Nat) (i : Nat) (lv : List (Nat × Value)) : (lv.filter (fun q => !(q.1 == i) && !(q.1 + 1 == i && q.2.category == 2))).map (fun q => (q.1, cv A q.2)) = (lv.map (fun q => (q.1, cv A q.2))).filter (fun q => !(q.1 == i) && !(q.1 + 1 == i && q.2.category == 2)) := by
  rw [List.filter_map]
  congr 1
  apply List.filter_congr
  intro x _
  simp [cv_cat]
theorem lv_fm2 (A : Nat → Nat) (i : Nat) (lv : List (Nat × Value)) : (lv.filter (fun q => !(q.1 == i) && (!(q.1 == i + 1) && !(q.1 + 1 == i && q.2.category == 2)))).map (fun q => (q.1, cv A q.2)) = (lv.map (fun q => (q.1, cv A q.2))).filter (fun q => !(q.1 == i) && (!(q.1 == i + 1) && !(q.1 + 1 == i && q.2.category == 2))) := by
  rw [List.filter_map]
  congr 1
  apply List.filter_congr
  intro x _
  simp [cv_cat]
theorem J_istore_n {k : Fin 4} {i : Nat} {x : Int32} {lv' : List (Nat × Value)} (hd : decode M.1 pc = .ok (.istore_n k, 1)) (hi : (k : Nat) = i) (hn : i < M.2.2.1) (hl : (i, Value.int x) :: lv.filter (fun q => !(q.1 == i) && !(q.1 + 1 == i && q.2.category == 2)) = lv') (hq : pc + 1 = q) (h : J X M d kc ks F q lv' st n σ) : J X M d kc ks F pc lv (.int x :: st) n σ := by
  intro p l e R s m args below meth c Ae ne D tc S A H locs cells slots ls C h1 h2 h3 h3' h4 h5 hP hD hS hL
  subst hq
  refine lv_istore_n C.1.1 C.1.2.1 hd hi hL hn (lv' := lv'.map (fun q => (q.1, cv A q.2))) (by rw [← hl, List.map_cons, lv_fm1]; rfl) (fun ls' hL' => h p l e R s m args below meth c Ae ne D tc S A H locs cells slots ls' C h1 h2 h3 h3' h4 h5 hP hD hS hL')
theorem J_istore {i : Nat} {x : Int32} {lv' : List (Nat × Value)} (hd : decode M.1 pc = .ok (.istore i, 2)) (hn : i < M.2.2.1) (hl : (i, Value.int x) :: lv.filter (fun q => !(q.1 == i) && !(q.1 + 1 == i && q.2.category == 2)) = lv') (hq : pc + 2 = q) (h : J X M d kc ks F q lv' st n σ) : J X M d kc ks F pc lv (.int x :: st) n σ := by
  intro p l e R s m args below meth c Ae ne D tc S A H locs cells slots ls C h1 h2 h3 h3' h4 h5 hP hD hS hL
  subst hq
  refine lv_istore C.1.1 C.1.2.1 hd hL hn (lv' := lv'.map (fun q => (q.1, cv A q.2))) (by rw [← hl, List.map_cons, lv_fm1]; rfl) (fun ls' hL' => h p l e R s m args below meth c Ae ne D tc S A H locs cells slots ls' C h1 h2 h3 h3' h4 h5 hP hD hS hL')
theorem J_astore_n {k : Fin 4} {i x : Nat} {lv' : List (Nat × Value)} (hd : decode M.1 pc = .ok (.astore_n k, 1)) (hi : (k : Nat) = i) (hn : i < M.2.2.1) (hl : (i, Value.ref x) :: lv.filter (fun q => !(q.1 == i) && !(q.1 + 1 == i && q.2.category == 2)) = lv') (hq : pc + 1 = q) (h : J X M d kc ks F q lv' st n σ) : J X M d kc ks F pc lv (.ref x :: st) n σ := by
  intro p l e R s m args below meth c Ae ne D tc S A H locs cells slots ls C h1 h2 h3 h3' h4 h5 hP hD hS hL
  subst hq
  refine lv_astore_n C.1.1 C.1.2.1 hd hi hL hn (lv' := lv'.map (fun q => (q.1, cv A q.2))) (by rw [← hl, List.map_cons, lv_fm1]; rfl) (fun ls' hL' => h p l e R s m args below meth c Ae ne D tc S A H locs cells slots ls' C h1 h2 h3 h3' h4 h5 hP hD hS hL')
theorem J_astore {i x : Nat} {lv' : List (Nat × Value)} (hd : decode M.1 pc = .ok (.astore i, 2)) (hn : i < M.2.2.1) (hl : (i, Value.ref x) :: lv.filter (fun q => !(q.1 == i) && !(q.1 + 1 == i && q.2.category == 2)) = lv') (hq : pc + 2 = q) (h : J X M d kc ks F q lv' st n σ) : J X M d kc ks F pc lv (.ref x :: st) n σ := by
  intro p l e R s m args below meth c Ae ne D tc S A H locs cells slots ls C h1 h2 h3 h3' h4 h5 hP hD hS hL
  subst hq
  refine lv_astore C.1.1 C.1.2.1 hd hL hn (lv' := lv'.map (fun q => (q.1, cv A q.2))) (by rw [← hl, List.map_cons, lv_fm1]; rfl) (fun ls' hL' => h p l e R s m args below meth c Ae ne D tc S A H locs cells slots ls' C h1 h2 h3 h3' h4 h5 hP hD hS hL')
theorem J_lstore_n {k : Fin 4} {i : Nat} {x : Int64} {lv' : List (Nat × Value)} (hd : decode M.1 pc = .ok (.lstore_n k, 1)) (hi : (k : Nat) = i) (hn : i + 1 < M.2.2.1) (hl : (i, Value.long x) :: lv.filter (fun q => !(q.1 == i) && (!(q.1 == i + 1) && !(q.1 + 1 == i && q.2.category == 2))) = lv') (hq : pc + 1 = q) (h : J X M d kc ks F q lv' st n σ) : J X M d kc ks F pc lv (.long x :: st) n σ := by
  intro p l e R s m args below meth c Ae ne D tc S A H locs cells slots ls C h1 h2 h3 h3' h4 h5 hP hD hS hL
  subst hq
  refine lv_lstore_n C.1.1 C.1.2.1 hd hi hL hn (lv' := lv'.map (fun q => (q.1, cv A q.2))) (by rw [← hl, List.map_cons, lv_fm2]; rfl) (fun ls' hL' => h p l e R s m args below meth c Ae ne D tc S A H locs cells slots ls' C h1 h2 h3 h3' h4 h5 hP hD hS hL')
theorem J_lstore {i : Nat} {x : Int64} {lv' : List (Nat × Value)} (hd : decode M.1 pc = .ok (.lstore i, 2)) (hn : i + 1 < M.2.2.1) (hl : (i, Value.long x) :: lv.filter (fun q => !(q.1 == i) && (!(q.1 == i + 1) && !(q.1 + 1 == i && q.2.category == 2))) = lv') (hq : pc + 2 = q) (h : J X M d kc ks F q lv' st n σ) : J X M d kc ks F pc lv (.long x :: st) n σ := by
  intro p l e R s m args below meth c Ae ne D tc S A H locs cells slots ls C h1 h2 h3 h3' h4 h5 hP hD hS hL
  subst hq
  refine lv_lstore C.1.1 C.1.2.1 hd hL hn (lv' := lv'.map (fun q => (q.1, cv A q.2))) (by rw [← hl, List.map_cons, lv_fm2]; rfl) (fun ls' hL' => h p l e R s m args below meth c Ae ne D tc S A H locs cells slots ls' C h1 h2 h3 h3' h4 h5 hP hD hS hL')
theorem J_iinc {i z : Nat} {v : Int} {x y : Int32} {lv' : List (Nat × Value)} (hd : decode M.1 pc = .ok (.iinc i v, 3)) (hz : lv[z]? = some (i, .int x)) (hv : x + Int32.ofInt v = y) (hn : i < M.2.2.1) (hl : (i, Value.int y) :: lv.filter (fun q => !(q.1 == i) && !(q.1 + 1 == i && q.2.category == 2)) = lv') (hq : pc + 3 = q) (h : J X M d kc ks F q lv' st n σ) : J X M d kc ks F pc lv st n σ := by
  intro p l e R s m args below meth c Ae ne D tc S A H locs cells slots ls C h1 h2 h3 h3' h4 h5 hP hD hS hL
  subst hq
  refine lv_iinc C.1.1 C.1.2.1 hd hL (k := z) (by rw [List.getElem?_map, hz]; rfl) hv hn (lv' := lv'.map (fun q => (q.1, cv A q.2))) (by rw [← hl, List.map_cons, lv_fm1]; rfl) (fun ls' hL' => h p l e R s m args below meth c Ae ne D tc S A H locs cells slots ls' C h1 h2 h3 h3' h4 h5 hP hD hS hL')
theorem J_pick {lv' : List (Nat × Value)} (zs : List Nat) (hl : lv_pick lv zs = lv') (h : J X M d kc ks F pc lv' st n σ) : J X M d kc ks F pc lv st n σ := by
  intro p l e R s m args below meth c Ae ne D tc S A H locs cells slots ls C h1 h2 h3 h3' h4 h5 hP hD hS hL
  refine h p l e R s m args below meth c Ae ne D tc S A H locs cells slots ls C h1 h2 h3 h3' h4 h5 hP hD hS (lv_sub hL zs ?_)
  rw [← hl]
  simp only [lv_pick, List.map_filterMap, List.getElem?_map]
theorem J_table {dflt lo hi : Int} {offs : Array Int} {len : Nat} {x : Int32} (hd : decode M.1 pc = .ok (.tableswitch dflt lo hi offs, len)) (ts : List (Int32 × Nat)) (dt : Nat)
    (h0 : (ts.all fun t => decide (lo ≤ t.1.toInt) && (decide (t.1.toInt ≤ hi) && (match offs[(t.1.toInt - lo).toNat]? with | some o => decide ((pc : Int) + o = (t.2 : Int)) | none => false))) = true)
    (h1 : ((List.range (hi - lo + 1).toNat).all fun k => ts.any fun t => decide (t.1.toInt = lo + k)) = true) (h2 : (pc : Int) + dflt = (dt : Int))
    (hin : ∀ t, t ∈ ts → x = t.1 → J X M d kc ks F t.2 lv st n σ) (hout : (∀ t, t ∈ ts → x ≠ t.1) → J X M d kc ks F dt lv st n σ) : J X M d kc ks F pc lv (.int x :: st) n σ := by
  intro p l e R s m args below meth c Ae ne D tc S A H locs cells slots ls C g1 g2 g3 g3' g4 g5 hP hD hS hL
  by_cases hx : ∃ t ∈ ts, x = t.1
  · obtain ⟨t, ht, e0⟩ := hx
    have a1 := List.all_eq_true.mp h0 t ht
    simp only [Bool.and_eq_true, decide_eq_true_eq] at a1
    obtain ⟨b1, b2, b3⟩ := a1
    split at b3
    · rename_i o ho
      simp only [decide_eq_true_eq] at b3
      exact lv_tableIn C.1.1 C.1.2.1 hd (by rw [e0]; omega) (by rw [e0]; omega) (by rw [e0]; exact ho) b3 (hin t ht e0 p l e R s m args below meth c Ae ne D tc S A H locs cells slots ls C g1 g2 g3 g3' g4 g5 hP hD hS hL)
    · cases b3
  · have hx' : ∀ t, t ∈ ts → x ≠ t.1 := fun t ht e0 => hx ⟨t, ht, e0⟩
    refine lv_tableOut C.1.1 C.1.2.1 hd ?_ h2 (hout hx' p l e R s m args below meth c Ae ne D tc S A H locs cells slots ls C g1 g2 g3 g3' g4 g5 hP hD hS hL)
    by_cases hlo : x.toInt < lo
    · exact Or.inl hlo
    · right
      by_cases hhi : hi < x.toInt
      · exact hhi
      · exfalso
        have a2 := List.all_eq_true.mp h1 (x.toInt - lo).toNat (by rw [List.mem_range]; omega)
        obtain ⟨t, ht, b⟩ := List.any_eq_true.mp a2
        simp only [decide_eq_true_eq] at b
        refine hx' t ht (Int32.toInt_inj.mp ?_)
        omega
end JJ
