/-! fields, arrays, calls, ends -/
def tyKok (t : FieldType) (K : Nat) : Bool := match t with
  | .int | .boolean => K == 0
  | .long => K == 1
  | .object _ | .array _ => decide (100 ≤ K)
  | _ => false
def FL (own : String) (idx ci k : Nat) (t : FieldType) (fin : Bool) : Prop := ci < 11 ∧ ∃ (C : String) (T : u_T) (N : Nat) (ty : Nat → FieldType),
  vwCl[ci]? = some (C, T, N) ∧ (∀ w ∈ u_ws C T N, w ∈ WS) ∧ (∀ k, k < N → parseFieldDescriptor (T k).2.2.1 = some (ty k)) ∧ (∀ a, a < N → ∀ b, b < N → a ≠ b → (T a).2.1 ≠ (T b).2.1) ∧ N = (FKs.getD ci []).length ∧
  k < N ∧ Cond.fieldLink own idx C (T k).2.1 (T k).2.2.1 ∈ WS ∧ (T k).1 = C ∧ ty k = t ∧ (T k).2.2.2 = fin
section JH
variable {X : XS} {M : JM} {d kc ks : Nat} {F : Nat × Option Value × Mm} {pc q : Nat} {lv : List (Nat × Value)} {st : List Value} {n : Nat} {σ : Mm}
theorem FK_obj {i ci k : Nat} (h : SH i = (0, ci)) : FK i k = (FKs.getD ci []).getD k 0 := by simp [FK, h]
theorem J_getV {A0 : Nat} {idx ci k i : Nat} {t : FieldType} {fin : Bool} {v : Value} (hd : decode M.1 pc = .ok (.getfield idx, 3)) (fl : FL M.2.1 idx ci k t fin) (hr : RT n i (100 + ci)) (hv : ∀ A, fv A ((FKs.getD ci []).getD k 0) σ i k = cv A v) (hq : pc + 3 = q) (h : J X M d kc ks F q lv (v :: st) n σ) : J X M d kc ks F pc lv (.ref i :: st) n σ := by
  intro p l e R s m args below meth c Ae ne D tc S A H locs cells slots ls C h1 h2 h3 h3' h4 h5 hP hD hS hL
  subst hq
  obtain ⟨hci, C1, T, N, ty, f1, f2, f3, f4, f5, f6, f7, f8, f9, f10⟩ := fl
  have hs := SH_obj hr (by omega)
  have hi : cps i < n := hr.2 (by omega)
  have he := ws_get (A := A) (tc := tc) (σ := σ) hi
  rw [cell_obj hs] at he
  refine va_get C.1.1 C.1.2.1 C.1.2.2.2.2 f2 C.1.2.2.2.1 C.2.2.2.2.2.2.1 hP (cps i) he f1 k f6 (C.1.2.2.2.2 _ f7) (fun x hx => by rw [f8] at hx; exact hx) (v := cv A v) ?_ hd (h p l e R s m args below meth c Ae ne D tc S A H locs cells slots ls C h1 h2 h3 h3' h4 h5 hP hD hS hL)
  rw [List.getElem?_map, List.getElem?_range (by omega), Option.map_some, FK_obj hs, hv]
theorem J_getI {idx ci k i : Nat} {t : FieldType} {fin : Bool} (hd : decode M.1 pc = .ok (.getfield idx, 3)) (fl : FL M.2.1 idx ci k t fin) (hr : RT n i (100 + ci)) (hK : (FKs.getD ci []).getD k 0 = 0) (hq : pc + 3 = q) (h : J X M d kc ks F q lv (.int (gI σ i k) :: st) n σ) : J X M d kc ks F pc lv (.ref i :: st) n σ :=
  J_getV (A0 := 0) hd fl hr (fun A => by rw [hK]; rfl) hq h
theorem J_getL {idx ci k i : Nat} {t : FieldType} {fin : Bool} (hd : decode M.1 pc = .ok (.getfield idx, 3)) (fl : FL M.2.1 idx ci k t fin) (hr : RT n i (100 + ci)) (hK : (FKs.getD ci []).getD k 0 = 1) (hq : pc + 3 = q) (h : J X M d kc ks F q lv (.long (gL σ i k) :: st) n σ) : J X M d kc ks F pc lv (.ref i :: st) n σ :=
  J_getV (A0 := 0) hd fl hr (fun A => by rw [hK]; rfl) hq h
theorem fv_ref {A : Nat → Nat} {K i k : Nat} {σ : Mm} (hK : 100 ≤ K) : fv A K σ i k = va_rf ((gR σ i k).map A) := by
  unfold fv; rw [if_neg (by omega), if_neg (by omega)]
theorem J_wt (h : WT n σ → J X M d kc ks F pc lv st n σ) : J X M d kc ks F pc lv st n σ := by
  intro p l e R s m args below meth c Ae ne D tc S A H locs cells slots ls C h1 h2 h3 h3' h4 h5 hP hD hS hL
  exact h h5 p l e R s m args below meth c Ae ne D tc S A H locs cells slots ls C h1 h2 h3 h3' h4 h5 hP hD hS hL
/-- a reference that is there -/
theorem J_getR {idx ci k i j K : Nat} {t : FieldType} {fin : Bool} (hd : decode M.1 pc = .ok (.getfield idx, 3)) (fl : FL M.2.1 idx ci k t fin) (hr : RT n i (100 + ci)) (hK : (FKs.getD ci []).getD k 0 = K) (hK2 : 100 ≤ K) (hj : gR σ i k = some j) (hq : pc + 3 = q) (h : RT n j K → J X M d kc ks F q lv (.ref j :: st) n σ) : J X M d kc ks F pc lv (.ref i :: st) n σ := by
  refine J_wt (fun hw => J_getV (A0 := 0) hd fl hr (v := .ref j) (fun A => ?_) hq (h ?_))
  · rw [hK, fv_ref hK2, hj]; rfl
  · have h1 := hw i k j (hr.2 (by have := fl.1; omega)) hj
    rw [FK_obj (SH_obj hr (by have := fl.1; omega)), hK] at h1
    exact h1
theorem J_getN {idx ci k i K : Nat} {t : FieldType} {fin : Bool} (hd : decode M.1 pc = .ok (.getfield idx, 3)) (fl : FL M.2.1 idx ci k t fin) (hr : RT n i (100 + ci)) (hK : (FKs.getD ci []).getD k 0 = K) (hK2 : 100 ≤ K) (hj : gR σ i k = none) (hq : pc + 3 = q) (h : J X M d kc ks F q lv (.null :: st) n σ) : J X M d kc ks F pc lv (.ref i :: st) n σ :=
  J_getV (A0 := 0) hd fl hr (v := .null) (fun A => by rw [hK, fv_ref hK2, hj]; rfl) hq h
/-- a write of a field -/
theorem J_putV {idx ci k i : Nat} {t : FieldType} {fin : Bool} {v : Value} {σ' : Mm} (hd : decode M.1 pc = .ok (.putfield idx, 3)) (fl : FL M.2.1 idx ci k t fin) (hf : fin = true → M.2.2.2.2 = true ∧ ∃ C T N, vwCl[ci]? = some (C, T, N) ∧ (T k).1 = M.2.1) (hr : RT n i (100 + ci)) (hn : ∀ A, narrow t (cv A v) = cv A v) (hfit : ∀ A, fits t (cv A v) = true)
    (hv : ∀ A, fv A ((FKs.getD ci []).getD k 0) σ' i k = cv A v) (ho : ∀ a b, (a ≠ i ∨ b ≠ k) → gI σ' a b = gI σ a b ∧ gL σ' a b = gL σ a b ∧ gR σ' a b = gR σ a b) (hW : WT n σ → WT n σ') (hq : pc + 3 = q) (h : J X M d kc ks F q lv st n σ') : J X M d kc ks F pc lv (v :: .ref i :: st) n σ := by
  intro p l e R s m args below meth c Ae ne D tc S A H locs cells slots ls C h1 h2 h3 h3' h4 h5 hP hD hS hL
  subst hq
  obtain ⟨hci, C1, T, N, ty, f1, f2, f3, f4, f5, f6, f7, f8, f9, f10⟩ := fl
  have hs := SH_obj hr (by omega)
  have hi : cps i < n := hr.2 (by omega)
  have he := ws_get (A := A) (tc := tc) (σ := σ) hi
  rw [cell_obj hs] at he
  have hset : (wsOf A tc n σ).set (cps i) (A i, .inr (ci, ((List.range (FKs.getD ci []).length).map (fun k => fv A (FK i k) σ i k)).set k (cv A v))) = wsOf A tc n σ' := by
    refine ws_set hi (cell_put hs (by omega) ?_ (fun j hj => ho i j (Or.inr hj))) (fun j hj => cell_ext (fun z => (ho j z (Or.inl hj)).1) (fun z => (ho j z (Or.inl hj)).2.1) (fun z => (ho j z (Or.inl hj)).2.2))
    rw [FK_obj hs, hv]
  by_cases hfin : fin = true
  · obtain ⟨hini, C2, T2, N2, g1, g2⟩ := hf hfin
    rw [f1] at g1; cases g1
    refine va_putF C.1.1 C.1.2.1 C.1.2.2.2.2 f2 ty f3 f4 C.1.2.2.2.1 C.2.2.2.2.2.2.1 hP hD hS (cps i) he f1 k f6 (C.1.2.2.2.2 _ f7) (fun x hx => by rw [f8] at hx; exact hx) (by rw [f10]; exact hfin) (C.2.2.2.1 hini) g2 (ty := t) (v := cv A v) (by rw [f3 k f6, f9]) (hn A) (hfit A) (by rw [List.length_map, List.length_range]; omega) hd (fun H1 locs1 hP1 hD1 hS1 => ?_)
    rw [hset] at hP1 hD1
    exact h p l e R s m args below meth c Ae ne D tc S A H1 locs1 cells slots ls C h1 h2 h3 h3' h4 (hW h5) hP1 hD1 hS1 hL
  · refine va_put C.1.1 C.1.2.1 C.1.2.2.2.2 f2 ty f3 f4 C.1.2.2.2.1 C.2.2.2.2.2.2.1 hP hD hS (cps i) he f1 k f6 (C.1.2.2.2.2 _ f7) (fun x hx => by rw [f8] at hx; exact hx) (by rw [f10]; exact Bool.eq_false_iff.mpr hfin) (ty := t) (v := cv A v) (by rw [f3 k f6, f9]) (hn A) (hfit A) (by rw [List.length_map, List.length_range]; omega) hd (fun H1 locs1 hP1 hD1 hS1 => ?_)
    rw [hset] at hP1 hD1
    exact h p l e R s m args below meth c Ae ne D tc S A H1 locs1 cells slots ls C h1 h2 h3 h3' h4 (hW h5) hP1 hD1 hS1 hL
theorem WT_sI {c k : Nat} {v : Int32} (h : WT n σ) : WT n (sI σ c k v) := h
theorem WT_sL {c k : Nat} {v : Int64} (h : WT n σ) : WT n (sL σ c k v) := h
theorem WT_sA {c : Nat} {f : Nat → Int32} (h : WT n σ) : WT n (sA σ c f) := h
theorem WT_sR {c k : Nat} {v : Option Nat} (h : WT n σ) (hv : ∀ j, v = some j → RT n j (FK c k)) : WT n (sR σ c k v) := by
  intro a b i ha hi
  rw [gR_sR] at hi
  split at hi
  · rename_i e; rw [e.1, e.2]; exact hv i hi
  · exact h a b i ha hi
theorem J_putI {idx ci k i : Nat} {fin : Bool} {x : Int32} (hd : decode M.1 pc = .ok (.putfield idx, 3)) (fl : FL M.2.1 idx ci k .int fin) (hf : fin = true → M.2.2.2.2 = true ∧ ∃ C T N, vwCl[ci]? = some (C, T, N) ∧ (T k).1 = M.2.1) (hr : RT n i (100 + ci)) (hK : (FKs.getD ci []).getD k 0 = 0) (hq : pc + 3 = q) (h : J X M d kc ks F q lv st n (sI σ i k x)) : J X M d kc ks F pc lv (.int x :: .ref i :: st) n σ :=
  J_putV (σ' := sI σ i k x) hd fl hf hr (fun _ => rfl) (fun _ => rfl) (fun A => by rw [hK]; show Value.int (gI (sI σ i k x) i k) = _; rw [gI_sI, if_pos ⟨rfl, rfl⟩]; rfl) (fun a b hab => ⟨by rw [gI_sI, if_neg (by rcases hab with z | z <;> exact fun w => by first | exact z w.1 | exact z w.2)], rfl, rfl⟩) WT_sI hq h
theorem J_putZ {idx ci k i : Nat} {fin : Bool} {x : Int32} (hd : decode M.1 pc = .ok (.putfield idx, 3)) (fl : FL M.2.1 idx ci k .boolean fin) (hf : fin = true → M.2.2.2.2 = true ∧ ∃ C T N, vwCl[ci]? = some (C, T, N) ∧ (T k).1 = M.2.1) (hr : RT n i (100 + ci)) (hK : (FKs.getD ci []).getD k 0 = 0) (hx : narrow .boolean (.int x) = .int x) (hx2 : fits .boolean (.int x) = true) (hq : pc + 3 = q) (h : J X M d kc ks F q lv st n (sI σ i k x)) : J X M d kc ks F pc lv (.int x :: .ref i :: st) n σ :=
  J_putV (σ' := sI σ i k x) hd fl hf hr (fun _ => hx) (fun _ => hx2) (fun A => by rw [hK]; show Value.int (gI (sI σ i k x) i k) = _; rw [gI_sI, if_pos ⟨rfl, rfl⟩]; rfl) (fun a b hab => ⟨by rw [gI_sI, if_neg (by rcases hab with z | z <;> exact fun w => by first | exact z w.1 | exact z w.2)], rfl, rfl⟩) WT_sI hq h
theorem J_putL {idx ci k i : Nat} {fin : Bool} {x : Int64} (hd : decode M.1 pc = .ok (.putfield idx, 3)) (fl : FL M.2.1 idx ci k .long fin) (hf : fin = true → M.2.2.2.2 = true ∧ ∃ C T N, vwCl[ci]? = some (C, T, N) ∧ (T k).1 = M.2.1) (hr : RT n i (100 + ci)) (hK : (FKs.getD ci []).getD k 0 = 1) (hq : pc + 3 = q) (h : J X M d kc ks F q lv st n (sL σ i k x)) : J X M d kc ks F pc lv (.long x :: .ref i :: st) n σ :=
  J_putV (σ' := sL σ i k x) hd fl hf hr (fun _ => rfl) (fun _ => rfl) (fun A => by rw [hK]; show Value.long (gL (sL σ i k x) i k) = _; rw [gL_sL, if_pos ⟨rfl, rfl⟩]; rfl) (fun a b hab => ⟨rfl, by rw [gL_sL, if_neg (by rcases hab with z | z <;> exact fun w => by first | exact z w.1 | exact z w.2)], rfl⟩) WT_sL hq h
theorem J_putR {idx ci k i K j : Nat} {t : FieldType} {fin : Bool} (hd : decode M.1 pc = .ok (.putfield idx, 3)) (fl : FL M.2.1 idx ci k t fin) (ht : (∃ C, t = .object C) ∨ ∃ z, t = .array z) (hf : fin = true → M.2.2.2.2 = true ∧ ∃ C T N, vwCl[ci]? = some (C, T, N) ∧ (T k).1 = M.2.1) (hr : RT n i (100 + ci)) (hK : (FKs.getD ci []).getD k 0 = K) (hK2 : 100 ≤ K) (hj : RT n j K) (hq : pc + 3 = q) (h : J X M d kc ks F q lv st n (sR σ i k (some j))) : J X M d kc ks F pc lv (.ref j :: .ref i :: st) n σ := by
  refine J_putV (σ' := sR σ i k (some j)) hd fl hf hr (fun A => by rcases ht with ⟨z, rfl⟩ | ⟨z, rfl⟩ <;> rfl) (fun A => by rcases ht with ⟨z, rfl⟩ | ⟨z, rfl⟩ <;> rfl) (fun A => ?_) (fun a b hab => ⟨rfl, rfl, by rw [gR_sR, if_neg (by rcases hab with z | z <;> exact fun w => by first | exact z w.1 | exact z w.2)]⟩) (fun w => WT_sR w (fun y hy => ?_)) hq h
  · rw [hK, fv_ref hK2, gR_sR, if_pos ⟨rfl, rfl⟩]; rfl
  · cases hy; rw [FK_obj (SH_obj hr (by have := fl.1; omega)), hK]; exact hj
theorem J_putN {idx ci k i K : Nat} {t : FieldType} {fin : Bool} (hd : decode M.1 pc = .ok (.putfield idx, 3)) (fl : FL M.2.1 idx ci k t fin) (ht : (∃ C, t = .object C) ∨ ∃ z, t = .array z) (hf : fin = true → M.2.2.2.2 = true ∧ ∃ C T N, vwCl[ci]? = some (C, T, N) ∧ (T k).1 = M.2.1) (hr : RT n i (100 + ci)) (hK : (FKs.getD ci []).getD k 0 = K) (hK2 : 100 ≤ K) (hq : pc + 3 = q) (h : J X M d kc ks F q lv st n (sR σ i k none)) : J X M d kc ks F pc lv (.null :: .ref i :: st) n σ := by
  refine J_putV (σ' := sR σ i k none) hd fl hf hr (fun A => by rcases ht with ⟨z, rfl⟩ | ⟨z, rfl⟩ <;> rfl) (fun A => by rcases ht with ⟨z, rfl⟩ | ⟨z, rfl⟩ <;> rfl) (fun A => ?_) (fun a b hab => ⟨rfl, rfl, by rw [gR_sR, if_neg (by rcases hab with z | z <;> exact fun w => by first | exact z w.1 | exact z w.2)]⟩) (fun w => WT_sR w (fun y hy => by cases hy)) hq h
  rw [hK, fv_ref hK2, gR_sR, if_pos ⟨rfl, rfl⟩]; rfl
/-! arrays -/
theorem cell_ints {A : Nat → Nat} {tc : Nat → ClassId} {i t : Nat} (h : SH i = (t + 1, ln i)) (ht : t = 0 ∨ t = 2) : cellOf A tc σ i = .inl (tc t, ln i, .inl (fun k => gI σ i k)) := by
  have e1 : (SH i).1 = t + 1 := by rw [h]
  have e2 : (SH i).2 = ln i := rfl
  unfold cellOf
  rw [if_neg (by omega), if_neg (by omega), if_pos (by omega), e1]
  rfl
theorem cell_longs {A : Nat → Nat} {tc : Nat → ClassId} {i : Nat} (h : SH i = (2, ln i)) : cellOf A tc σ i = .inl (tc 1, ln i, .inr (.inl (fun k => gL σ i k))) := by
  have e1 : (SH i).1 = 2 := by rw [h]
  unfold cellOf
  rw [if_neg (by omega), if_pos e1]
  rfl
theorem cell_refs {A : Nat → Nat} {tc : Nat → ClassId} {i t : Nat} (h : SH i = (t + 1, ln i)) (ht : 3 ≤ t) : cellOf A tc σ i = .inl (tc t, ln i, .inr (.inr (.inr (.inr (fun k => (gR σ i k).map A))))) := by
  have e1 : (SH i).1 = t + 1 := by rw [h]
  unfold cellOf
  rw [if_neg (by omega), if_neg (by omega), if_neg (by omega), e1]
  rfl
theorem SH_big {i : Nat} (h0 : (SH i).1 = 0) (h1 : 100 ≤ (SH i).2) : False := by
  have key : ∀ l : List (Nat × Nat), (l.all fun q => decide (q.1 = 0 → q.2 < 100)) = true → ∀ k, (l.getD k (99, 0)).1 = 0 → (l.getD k (99, 0)).2 < 100 := by
    intro l hl k hk
    by_cases hkl : k < l.length
    · have := List.all_eq_true.mp hl (l.getD k (99, 0)) (by rw [List.getD_eq_getElem?_getD, List.getElem?_eq_getElem hkl]; exact List.getElem_mem hkl)
      exact (decide_eq_true_eq.mp this) hk
    · rw [List.getD_eq_getElem?_getD, List.getElem?_eq_none (by omega)] at hk
      cases hk
  unfold SH at h0 h1
  split at h0
  · rename_i q; rw [if_pos q] at h1; have := key SHl (by decide +kernel) i h0; omega
  · rename_i q; rw [if_neg q] at h1; have := key SHc (by decide +kernel) (i - 1000) h0; omega
theorem RT_arr {i t : Nat} (h : RT n i (200 + t)) : SH i = (t + 1, ln i) := by
  rcases SH_arr h with h | h
  · exact h
  · exact (SH_big h.1 (by omega)).elim
theorem J_iald {i : Nat} {j : Int32} (hd : decode M.1 pc = .ok (.iaload, 1)) (hr : RT n i 200) (hj : vp_in j (ln i)) (hq : pc + 1 = q) (h : J X M d kc ks F q lv (.int (gI σ i j.toNatClampNeg) :: st) n σ) : J X M d kc ks F pc lv (.int j :: .ref i :: st) n σ := by
  intro p l e R s m args below meth c Ae ne D tc S A H locs cells slots ls C h1 h2 h3 h3' h4 h5 hP hD hS hL
  subst hq
  have he := ws_get (A := A) (tc := tc) (σ := σ) (hr.2 (by omega))
  rw [cell_ints (t := 0) (RT_arr hr) (Or.inl rfl)] at he
  exact va_iald C.1.1 C.1.2.1 C.2.2.2.2.2.2.1 hP (cps i) 0 he rfl hj hd (h p l e R s m args below meth c Ae ne D tc S A H locs cells slots ls C h1 h2 h3 h3' h4 h5 hP hD hS hL)
theorem J_bald {i : Nat} {j : Int32} (hd : decode M.1 pc = .ok (.baload, 1)) (hr : RT n i 202) (hj : vp_in j (ln i)) (hq : pc + 1 = q) (h : J X M d kc ks F q lv (.int (gI σ i j.toNatClampNeg) :: st) n σ) : J X M d kc ks F pc lv (.int j :: .ref i :: st) n σ := by
  intro p l e R s m args below meth c Ae ne D tc S A H locs cells slots ls C h1 h2 h3 h3' h4 h5 hP hD hS hL
  subst hq
  have he := ws_get (A := A) (tc := tc) (σ := σ) (hr.2 (by omega))
  rw [cell_ints (t := 2) (RT_arr hr) (Or.inr rfl)] at he
  exact va_bald C.1.1 C.1.2.1 C.2.2.2.2.2.2.1 hP (cps i) 2 he rfl hj hd (h p l e R s m args below meth c Ae ne D tc S A H locs cells slots ls C h1 h2 h3 h3' h4 h5 hP hD hS hL)
theorem J_lald {i : Nat} {j : Int32} (hd : decode M.1 pc = .ok (.laload, 1)) (hr : RT n i 201) (hj : vp_in j (ln i)) (hq : pc + 1 = q) (h : J X M d kc ks F q lv (.long (gL σ i j.toNatClampNeg) :: st) n σ) : J X M d kc ks F pc lv (.int j :: .ref i :: st) n σ := by
  intro p l e R s m args below meth c Ae ne D tc S A H locs cells slots ls C h1 h2 h3 h3' h4 h5 hP hD hS hL
  subst hq
  have he := ws_get (A := A) (tc := tc) (σ := σ) (hr.2 (by omega))
  rw [cell_longs (RT_arr hr)] at he
  exact va_lald C.1.1 C.1.2.1 C.2.2.2.2.2.2.1 hP (cps i) 1 he rfl hj hd (h p l e R s m args below meth c Ae ne D tc S A H locs cells slots ls C h1 h2 h3 h3' h4 h5 hP hD hS hL)
theorem J_aald {i t x : Nat} {j : Int32} (hd : decode M.1 pc = .ok (.aaload, 1)) (hr : RT n i (200 + t)) (ht : t = 3 ∨ t = 4 ∨ t = 5) (hj : vp_in j (ln i)) (hx : gR σ i j.toNatClampNeg = some x) (hq : pc + 1 = q) (h : RT n x (if t = 3 then 103 else if t = 4 then 105 else 106) → J X M d kc ks F q lv (.ref x :: st) n σ) : J X M d kc ks F pc lv (.int j :: .ref i :: st) n σ := by
  intro p l e R s m args below meth c Ae ne D tc S A H locs cells slots ls C h1 h2 h3 h3' h4 h5 hP hD hS hL
  subst hq
  have hi := hr.2 (by omega)
  have he := ws_get (A := A) (tc := tc) (σ := σ) hi
  have hs := RT_arr hr
  rw [cell_refs hs (by omega)] at he
  have hk : RT n x (if t = 3 then 103 else if t = 4 then 105 else 106) := by
    have h7 := h5 i _ x hi hx
    have e1 : (SH i).1 = t + 1 := by rw [hs]
    unfold FK at h7
    rw [if_neg (by omega), if_neg (by omega)] at h7
    rcases ht with rfl | rfl | rfl
    · rw [if_pos e1] at h7; exact h7
    · rw [if_neg (by omega), if_pos e1] at h7; exact h7
    · rw [if_neg (by omega), if_neg (by omega), if_pos e1] at h7; exact h7
  have k := h hk p l e R s m args below meth c Ae ne D tc S A H locs cells slots ls C h1 h2 h3 h3' h4 h5 hP hD hS hL
  have e : va_rf ((gR σ i j.toNatClampNeg).map A) = .ref (A x) := by rw [hx]; rfl
  rcases ht with rfl | rfl | rfl
  · exact va_aldq C.1.1 C.1.2.1 C.2.2.2.2.2.2.1 hP (cps i) 3 he (C := RX3) rfl hj hd (by rw [e]; exact k)
  · exact va_aldq C.1.1 C.1.2.1 C.2.2.2.2.2.2.1 hP (cps i) 4 he (C := RX5) rfl hj hd (by rw [e]; exact k)
  · exact va_aldq C.1.1 C.1.2.1 C.2.2.2.2.2.2.1 hP (cps i) 5 he (C := RX6) rfl hj hd (by rw [e]; exact k)
theorem J_alen {i t : Nat} {x : Int32} (hd : decode M.1 pc = .ok (.arraylength, 1)) (hr : RT n i (200 + t)) (ht : t < 6) (hx : nI (ln i) = x) (hq : pc + 1 = q) (h : J X M d kc ks F q lv (.int x :: st) n σ) : J X M d kc ks F pc lv (.ref i :: st) n σ := by
  intro p l e R s m args below meth c Ae ne D tc S A H locs cells slots ls C h1 h2 h3 h3' h4 h5 hP hD hS hL
  subst hq
  have he := ws_get (A := A) (tc := tc) (σ := σ) (hr.2 (by omega))
  have hs := RT_arr hr
  have k := h p l e R s m args below meth c Ae ne D tc S A H locs cells slots ls C h1 h2 h3 h3' h4 h5 hP hD hS hL
  have ht6 : t = 0 ∨ t = 1 ∨ t = 2 ∨ t = 3 ∨ t = 4 ∨ t = 5 := by omega
  rcases ht6 with rfl | rfl | rfl | rfl | rfl | rfl
  · rw [cell_ints (t := 0) hs (Or.inl rfl)] at he; exact va_alen C.1.1 C.1.2.1 C.2.2.2.2.2.2.1 hP (cps i) 0 he rfl hx hd k
  · rw [cell_longs hs] at he; exact va_alen C.1.1 C.1.2.1 C.2.2.2.2.2.2.1 hP (cps i) 1 he rfl hx hd k
  · rw [cell_ints (t := 2) hs (Or.inr rfl)] at he; exact va_alen C.1.1 C.1.2.1 C.2.2.2.2.2.2.1 hP (cps i) 2 he rfl hx hd k
  · rw [cell_refs hs (by omega)] at he; exact va_alen C.1.1 C.1.2.1 C.2.2.2.2.2.2.1 hP (cps i) 3 he rfl hx hd k
  · rw [cell_refs hs (by omega)] at he; exact va_alen C.1.1 C.1.2.1 C.2.2.2.2.2.2.1 hP (cps i) 4 he rfl hx hd k
  · rw [cell_refs hs (by omega)] at he; exact va_alen C.1.1 C.1.2.1 C.2.2.2.2.2.2.1 hP (cps i) 5 he rfl hx hd k
theorem ws_setA {A : Nat → Nat} {tc : Nat → ClassId} {i t : Nat} {f : Nat → Int32} {σ' : Mm} (hi : cps i < n) (h : SH i = (t + 1, ln i)) (ht : t = 0 ∨ t = 2) (hf : ∀ k, f k = gI σ' i k) (ho : ∀ j, j ≠ i → ∀ k, gI σ' j k = gI σ j k) (hl : ∀ j k, gL σ' j k = gL σ j k) (hr : ∀ j k, gR σ' j k = gR σ j k) : (wsOf A tc n σ).set (cps i) (A i, .inl (tc t, ln i, .inl f)) = wsOf A tc n σ' :=
  ws_set hi (by rw [cell_ints h ht]; exact congrArg (fun z => (.inl (tc t, ln i, .inl z) : va_E)) (funext hf)) (fun j hj => cell_ext (ho j hj) (hl j) (hr j))
theorem J_iast {i : Nat} {j x : Int32} (hd : decode M.1 pc = .ok (.iastore, 1)) (hr : RT n i 200) (hj : vp_in j (ln i)) (hq : pc + 1 = q) (h : J X M d kc ks F q lv st n (sI σ i j.toNatClampNeg x)) : J X M d kc ks F pc lv (.int x :: .int j :: .ref i :: st) n σ := by
  intro p l e R s m args below meth c Ae ne D tc S A H locs cells slots ls C h1 h2 h3 h3' h4 h5 hP hD hS hL
  subst hq
  have hi := hr.2 (by omega)
  have he := ws_get (A := A) (tc := tc) (σ := σ) hi
  rw [cell_ints (t := 0) (RT_arr hr) (Or.inl rfl)] at he
  refine va_iast C.1.1 C.1.2.1 C.2.2.2.2.2.2.1 hP hD hS (cps i) 0 he rfl hj hd (fun H1 locs1 hP1 hD1 hS1 => ?_)
  have hset : (wsOf A tc n σ).set (cps i) (A i, .inl (tc 0, ln i, .inl (upd (fun k => gI σ i k) j.toNatClampNeg x))) = wsOf A tc n (sI σ i j.toNatClampNeg x) :=
    ws_setA hi (RT_arr hr) (Or.inl rfl) (fun k => by rw [gI_sI]; simp [upd]) (fun a ha k => by rw [gI_sI, if_neg (fun w => ha w.1)]) (fun _ _ => rfl) (fun _ _ => rfl)
  rw [hset] at hP1 hD1
  exact h p l e R s m args below meth c Ae ne D tc S A H1 locs1 cells slots ls C h1 h2 h3 h3' h4 h5 hP1 hD1 hS1 hL
theorem J_bast {i : Nat} {j x : Int32} (hd : decode M.1 pc = .ok (.bastore, 1)) (hr : RT n i 202) (hj : vp_in j (ln i)) (hq : pc + 1 = q) (h : J X M d kc ks F q lv st n (sI σ i j.toNatClampNeg (byI x))) : J X M d kc ks F pc lv (.int x :: .int j :: .ref i :: st) n σ := by
  intro p l e R s m args below meth c Ae ne D tc S A H locs cells slots ls C h1 h2 h3 h3' h4 h5 hP hD hS hL
  subst hq
  have hi := hr.2 (by omega)
  have he := ws_get (A := A) (tc := tc) (σ := σ) hi
  rw [cell_ints (t := 2) (RT_arr hr) (Or.inr rfl)] at he
  refine va_bast C.1.1 C.1.2.1 C.2.2.2.2.2.2.1 hP hD hS (cps i) 2 he rfl hj hd (fun H1 locs1 hP1 hD1 hS1 => ?_)
  have hset : (wsOf A tc n σ).set (cps i) (A i, .inl (tc 2, ln i, .inl (upd (fun k => gI σ i k) j.toNatClampNeg (vp_nar .byte x)))) = wsOf A tc n (sI σ i j.toNatClampNeg (byI x)) :=
    ws_setA hi (RT_arr hr) (Or.inr rfl) (fun k => by rw [gI_sI, vp_nar_byte]; simp [upd, byI]) (fun a ha k => by rw [gI_sI, if_neg (fun w => ha w.1)]) (fun _ _ => rfl) (fun _ _ => rfl)
  rw [hset] at hP1 hD1
  exact h p l e R s m args below meth c Ae ne D tc S A H1 locs1 cells slots ls C h1 h2 h3 h3' h4 h5 hP1 hD1 hS1 hL
theorem J_last {i : Nat} {j : Int32} {x : Int64} (hd : decode M.1 pc = .ok (.lastore, 1)) (hr : RT n i 201) (hj : vp_in j (ln i)) (hq : pc + 1 = q) (h : J X M d kc ks F q lv st n (sL σ i j.toNatClampNeg x)) : J X M d kc ks F pc lv (.long x :: .int j :: .ref i :: st) n σ := by
  intro p l e R s m args below meth c Ae ne D tc S A H locs cells slots ls C h1 h2 h3 h3' h4 h5 hP hD hS hL
  subst hq
  have hi := hr.2 (by omega)
  have he := ws_get (A := A) (tc := tc) (σ := σ) hi
  rw [cell_longs (RT_arr hr)] at he
  refine va_last C.1.1 C.1.2.1 C.2.2.2.2.2.2.1 hP hD hS (cps i) 1 he rfl hj hd (fun H1 locs1 hP1 hD1 hS1 => ?_)
  have hset : (wsOf A tc n σ).set (cps i) (A i, .inl (tc 1, ln i, .inr (.inl (vp_updL (fun k => gL σ i k) j.toNatClampNeg x)))) = wsOf A tc n (sL σ i j.toNatClampNeg x) := by
    refine ws_set hi (by rw [cell_longs (RT_arr hr)]; exact congrArg (fun z => (.inl (tc 1, ln i, .inr (.inl z)) : va_E)) (funext (fun k => by rw [gL_sL]; simp [vp_updL]))) (fun a ha => cell_ext (fun _ => rfl) (fun k => by rw [gL_sL, if_neg (fun w => ha w.1)]) (fun _ => rfl))
  rw [hset] at hP1 hD1
  exact h p l e R s m args below meth c Ae ne D tc S A H1 locs1 cells slots ls C h1 h2 h3 h3' h4 h5 hP1 hD1 hS1 hL
/-! ends -/
theorem J_ireturn {x : Int32} {ty : FieldType} (hd : decode M.1 pc = .ok (.ireturn, 1)) (hM : M.2.2.2.1 = some ty) (hx : narrow ty (.int x) = .int x) (hF : F = (n, some (.int x), σ)) : J X M d kc ks F pc lv [.int x] n σ := by
  intro p l e R s m args below meth c Ae ne D tc S A H locs cells slots ls C h1 h2 h3 h3' h4 h5 hP hD hS hL
  subst hF
  refine W.widen (k := R.cells) (n := R.slots) (by omega) (by omega) ?_
  refine W.zret (ty := ty) C.1.1 C.1.2.1 (C.2.1.trans hM) hx (fun t ht hW => ⟨⟨A, h4, rfl, by rw [hM]; exact hx, h5, by rw [ht]; exact hP, hD⟩, hS.F ht⟩) hS.2.2 hd C.2.2.1
theorem J_lreturn {x : Int64} (hd : decode M.1 pc = .ok (.lreturn, 1)) (hM : M.2.2.2.1 = some .long) (hF : F = (n, some (.long x), σ)) : J X M d kc ks F pc lv [.long x] n σ := by
  intro p l e R s m args below meth c Ae ne D tc S A H locs cells slots ls C h1 h2 h3 h3' h4 h5 hP hD hS hL
  subst hF
  refine W.widen (k := R.cells) (n := R.slots) (by omega) (by omega) ?_
  refine W.lret C.1.1 C.1.2.1 (C.2.1.trans hM) (fun t ht hW => ⟨⟨A, h4, rfl, by rw [hM]; trivial, h5, by rw [ht]; exact hP, hD⟩, hS.F ht⟩) hS.2.2 hd C.2.2.1
theorem J_return (hd : decode M.1 pc = .ok (.return_, 1)) (hM : M.2.2.2.1 = none) (hF : F = (n, none, σ)) : J X M d kc ks F pc lv [] n σ := by
  intro p l e R s m args below meth c Ae ne D tc S A H locs cells slots ls C h1 h2 h3 h3' h4 h5 hP hD hS hL
  subst hF
  refine W.widen (k := R.cells) (n := R.slots) (by omega) (by omega) ?_
  refine W.vret C.1.1 C.1.2.1 (C.2.1.trans hM) (fun t ht hW => ⟨⟨A, h4, rfl, by rw [hM]; trivial, h5, by rw [ht]; exact hP, hD⟩, hS.F ht⟩) hS.2.2 hd C.2.2.1
end JH
