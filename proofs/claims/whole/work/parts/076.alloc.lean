/-! cells that are made; constructors' calls -/
theorem SHk_mid {j : Nat} (h : j < 1000) : SHk j ≤ 205 ∨ SHk j = 298 := by
  have key : ∀ l : List (Nat × Nat), (l.all fun q => decide ((if q.1 = 0 then 100 + q.2 else 199 + q.1) ≤ 205)) = true → ∀ k, (if (l.getD k (99, 0)).1 = 0 then 100 + (l.getD k (99, 0)).2 else 199 + (l.getD k (99, 0)).1) ≤ 205 ∨ (if (l.getD k (99, 0)).1 = 0 then 100 + (l.getD k (99, 0)).2 else 199 + (l.getD k (99, 0)).1) = 298 := by
    intro l hl k
    by_cases hkl : k < l.length
    · left
      have := List.all_eq_true.mp hl (l.getD k (99, 0)) (by rw [List.getD_eq_getElem?_getD, List.getElem?_eq_getElem hkl]; exact List.getElem_mem hkl)
      exact of_decide_eq_true this
    · right
      rw [List.getD_eq_getElem?_getD, List.getElem?_eq_none (by omega)]
      rfl
  unfold SHk SH
  rw [if_pos h]
  exact key SHl (by decide +kernel) j
theorem FK_le (i k : Nat) : FK i k ≤ 207 := by
  have key : ∀ l : List (List Nat), (l.all fun r => r.all fun q => decide (q ≤ 207)) = true → ∀ c k, (l.getD c []).getD k 0 ≤ 207 := by
    intro l hl c k
    rw [List.getD_eq_getElem?_getD, List.getD_eq_getElem?_getD]
    cases h1 : l[c]? with
    | none => simp
    | some r =>
      cases h2 : r[k]? with
      | none => simp [h2]
      | some q =>
        have h3 := List.all_eq_true.mp hl r (List.mem_of_getElem? h1)
        have h4 := List.all_eq_true.mp h3 q (List.mem_of_getElem? h2)
        simpa [h2] using of_decide_eq_true h4
  unfold FK
  split
  · exact key FKs (by decide +kernel) _ _
  · repeat' split
    all_goals omega
theorem WT_ne {n i k j m : Nat} {σ : Mm} (hW : WT n σ) (hi : cps i < n) (hj : gR σ i k = some j) (hm : n ≤ cps m) (hm9 : m < 1000) : j ≠ m := by
  have h1 := hW i k j hi hj
  intro e
  have h2 := h1.1
  have h3 := FK_le i k
  rcases Nat.lt_or_ge (FK i k) 206 with h4 | h4
  · have := h1.2 h4; rw [e] at this; omega
  · rcases SHk_mid (j := j) (by omega) with h5 | h5 <;> omega
/-- the addresses with one more -/
def upA (A : Nat → Nat) (n q : Nat) : Nat → Nat := fun i => if i = n then q else A i
theorem cell_upA {A : Nat → Nat} {tc : Nat → ClassId} {σ : Mm} {n i b q : Nat} (hb : cnm n = b) (hW : WT n σ) (hi : cps i < n) (hn : b < 1000) : cellOf (upA A b q) tc σ i = cellOf A tc σ i := by
  have e : ∀ k, (gR σ i k).map (upA A b q) = (gR σ i k).map A := by
    intro k
    cases h : gR σ i k with
    | none => rfl
    | some j =>
      have := WT_ne hW hi h (Nat.le_of_eq (cps_of hb).symm) hn
      simp [upA, this]
  simp only [cellOf, fv, e]
theorem ws_snoc {A : Nat → Nat} {tc : Nat → ClassId} {σ : Mm} {n b q : Nat} {e : va_E} (hb : cnm n = b) (hW : WT n σ) (hn : b < 1000) (he : e = cellOf (upA A b q) tc σ b) : wsOf A tc n σ ++ [(q, e)] = wsOf (upA A b q) tc (n + 1) σ := by
  unfold wsOf
  rw [List.range_succ, List.map_append]
  congr 1
  · apply List.map_congr_left
    intro k hk
    have hk' := List.mem_range.mp hk
    have hne : cnm k ≠ b := fun z => by have h1 := cps_of z; have h2 := cps_of hb; omega
    rw [cell_upA hb hW (by rw [cps_cnm]; exact hk') hn]
    simp [upA, hne]
  · simp [he, upA, hb]
def fresh (σ : Mm) (n : Nat) : Prop := ∀ k, gI σ n k = 0 ∧ gL σ n k = 0 ∧ gR σ n k = none
theorem WT_snoc {n b : Nat} {σ : Mm} (hb : cnm n = b) (hW : WT n σ) (hf : fresh σ b) : WT (n + 1) σ := by
  intro c k i hc hi
  by_cases h : c = b
  · subst h; rw [(hf k).2.2] at hi; cases hi
  · have hne : cps c ≠ n := fun z => h (by rw [← hb, ← z, cnm_cps])
    exact (hW c k i (by omega) hi).mono (by omega)
def NL (own : String) (idx ci : Nat) : Prop := ci < 11 ∧ ∃ (C : String) (T : u_T) (N : Nat) (ty : Nat → FieldType),
  vwCl[ci]? = some (C, T, N) ∧ (∀ w ∈ u_ws C T N, w ∈ WS) ∧ (∀ k, k < N → parseFieldDescriptor (T k).2.2.1 = some (ty k)) ∧ N = (FKs.getD ci []).length ∧
  Cond.classLink own idx C ∈ WS ∧ Cond.instantiable C N ∈ WS ∧ Cond.initialized C ∈ WS ∧
  (∀ k, k < N → defaultValue (ty k) = (if (FKs.getD ci []).getD k 0 = 0 then .int 0 else if (FKs.getD ci []).getD k 0 = 1 then .long 0 else .null))
def vNe (n : Nat) (v : Value) : Prop := match v with | .ref i => i ≠ n | _ => True
section JN
variable {X : XS} {M M1 : JM} {d d1 kc ks kc1 ks1 kc2 ks2 : Nat} {F F1 : Nat × Option Value × Mm} {pc q : Nat} {lv : List (Nat × Value)} {st as : List Value} {n : Nat} {σ : Mm} {y : MethodName}
theorem vNe_map {A : Nat → Nat} {n q : Nat} {l : List Value} (hv : ∀ v ∈ l, vNe n v) : l.map (cv (upA A n q)) = l.map (cv A) := by
  apply List.map_congr_left
  intro v hvs
  have := hv v hvs
  cases v with
  | ref i =>
    show Value.ref (upA A n q i) = Value.ref (A i)
    simp only [vNe] at this
    simp [upA, this]
  | _ => rfl
theorem vNe_lv {A : Nat → Nat} {n q : Nat} {lv : List (Nat × Value)} (hv : ∀ v ∈ lv.map Prod.snd, vNe n v) : lv.map (fun z => (z.1, cv (upA A n q) z.2)) = lv.map (fun z => (z.1, cv A z.2)) := by
  apply List.map_congr_left
  intro w hw
  have h2 := vNe_map (A := A) (n := n) (q := q) (l := [w.2]) (fun v hv' => by
    rw [List.mem_singleton] at hv'
    rw [hv']
    exact hv _ (List.mem_map_of_mem hw))
  simp only [List.map_cons, List.map_nil, List.cons.injEq, and_true] at h2
  rw [h2]
theorem Agr_up {Ae A : Nat → Nat} {ne n b q : Nat} (hb : cnm n = b) (hne : ne ≤ n) (h : Agr ne n Ae A) : Agr ne (n + 1) Ae (upA A b q) := by
  intro i hi
  have hcb := cps_of hb
  have : i ≠ b := fun z => by rw [z] at hi; omega
  show (if i = b then q else A i) = Ae i
  rw [if_neg this]
  exact h i (by omega)
/-- a new object -/
theorem J_new {idx ci b : Nat} (hb : cnm n = b) (hd : decode M.1 pc = .ok (.new idx, 3)) (nl : NL M.2.1 idx ci) (hs : SH b = (0, ci)) (hn : b < 1000) (hf : fresh σ b) (hv : ∀ v ∈ st ++ lv.map Prod.snd, vNe b v) (hkc : kc2 + 1 ≤ kc) (hks : ks2 + (FKs.getD ci []).length ≤ ks) (hq : pc + 3 = q)
    (h : J X M d kc2 ks2 F q lv (.ref b :: st) (n + 1) σ) : J X M d kc ks F pc lv st n σ := by
  intro p l e R s m args below meth c Ae ne D tc S A H locs cells slots ls C h1 h2 h3 h3' h4 h5 hP hD hS hL
  subst hq
  have hn2 : n < 1000 := by have g1 := cps_of hb; have g2 := cps_cases b; omega
  obtain ⟨hci, C1, T, N, ty, f1, f2, f3, f4, f5, f6, f7, f8⟩ := nl
  have hW := C.1.2.2.2.2
  refine va_new (fs := (List.range N).map (fun k => fv A (FK b k) σ b k)) C.1.1 C.1.2.1 hW f2 ty f3 C.1.2.2.2.1 (hW _ f5) (hW _ f6) (hW _ f7) C.2.2.2.2.2.2.1 hP hD hS C.2.2.2.2.2.2.2.2.1 f1 (fun j hj => ?_) (by omega) (by omega) hd (fun q9 H1 hP1 hD1 hS1 => ?_)
  · have e9 : ((List.range N).map (fun k => fv A (FK b k) σ b k)).getD j .null = fv A (FK b j) σ b j := by
      rw [List.getD_eq_getElem?_getD, List.getElem?_map, List.getElem?_range hj]; rfl
    rw [f8 j hj]
    show _ = ((List.range N).map (fun k => fv A (FK b k) σ b k)).getD j .null
    rw [e9, FK_obj hs]
    unfold fv
    obtain ⟨g1, g2, g3⟩ := hf j
    rw [g1, g2, g3]
    rfl
  · have he : (.inr (ci, (List.range N).map (fun k => fv A (FK b k) σ b k)) : va_E) = cellOf (upA A b q9) tc σ b := by
      rw [cell_obj hs, f4]
      congr 2
      apply List.map_congr_left
      intro k _
      unfold fv
      rw [(hf k).2.2]
      rfl
    rw [ws_snoc hb h5 hn he] at hP1 hD1
    have e1 : st.map (cv (upA A b q9)) = st.map (cv A) := vNe_map (fun v z => hv v (List.mem_append_left _ z))
    have hL' : lv_has ls M.2.2.1 (lv.map (fun z => (z.1, cv (upA A b q9) z.2))) := by
      rw [vNe_lv (fun v z => hv v (List.mem_append_right _ z))]; exact hL
    have k9 := h p l e R s m args below meth c Ae ne D tc S (upA A b q9) H1 locs (cells + 1) (slots + N) ls C (by omega) (by omega) (by omega) (by omega) (Agr_up hb h3 h4) (WT_snoc hb h5 hf) hP1 hD1 hS1 hL'
    rw [List.map_cons, e1] at k9
    have e2 : cv (upA A b q9) (.ref b) = .ref q9 := by show Value.ref (if b = b then q9 else A b) = _; rw [if_pos rfl]
    rw [e2] at k9
    exact k9
theorem tc_eq {tc : Nat → ClassId} {D : va_G} {cl : List vw_C} {cA : ClassId} {ty : FieldType} {s : State} {t : Nat} (hK : va_K D cl (tysOf tc ++ [(cA, ty)]) s) (ht : (tysOf tc)[t]? = some (tc t, ty)) (ht6 : t < 6) : cA = tc t := by
  have h1 := (hK.2 t (tc t, ty) (by rw [List.getElem?_append_left (by exact ht6)]; exact ht)).2
  have h2 := (hK.2 6 (cA, ty) rfl).2
  cases ty with
  | object C0 =>
    obtain ⟨_, _, _, _, _, a1⟩ := h1
    obtain ⟨_, _, _, _, _, a2⟩ := h2
    exact Option.some.inj (a2.symm.trans a1)
  | _ => exact Option.some.inj ((show _ = some cA from h2).symm.trans h1)
/-- what follows a new array -/
theorem J_newA {p : Program} {l : Launch} {e : Env} {R : Room} {s : State} {m : MethodId} {args : Array Value} {below : List Frame} {meth : Method} {c : Code} {Ae : Nat → Nat} {ne : Nat} {D : va_G} {tc : Nat → ClassId} {S : Nat → Prop} {A : Nat → Nat} {H1 : Heap} {locs : List Loc} {cells slots : Nat} {ls : Array Slot} {q9 L b : Nat} {e9 : va_E}
    (hb : cnm n = b) (C : jC X M d p l R s m args meth c Ae ne D tc S) (h1 : cells + kc ≤ R.cells) (h2 : slots + ks ≤ R.slots) (h3 : ne ≤ n) (h4 : Agr ne n Ae A) (h5 : WT n σ) (hL : lv_has ls M.2.2.1 (lv.map (fun q => (q.1, cv A q.2))))
    (hP1 : va_P D vwCl (wsOf A tc n σ ++ [(q9, e9)]) H1) (hD1 : va_D S (wsOf A tc n σ ++ [(q9, e9)])) (hS1 : va_S S s.heap H1 locs) (he : e9 = cellOf (upA A b q9) tc σ b)
    (hn : b < 1000) (hf : fresh σ b) (hv : ∀ v ∈ st ++ lv.map Prod.snd, vNe b v) (hkc : kc2 + 1 ≤ kc) (hks : ks2 + L ≤ ks) (h : J X M d kc2 ks2 F q lv (.ref b :: st) (n + 1) σ) :
    W p l e R s m args below meth c H1 locs (cells + 1) (slots + L) (MQ below (jQ M.2.2.2.1 Ae ne D tc S F.1 F.2.1 F.2.2) args s R.cells R.slots S) (F0 m q ls (.ref q9 :: st.map (cv A))) := by
  have hn2 : n < 1000 := by have g1 := cps_of hb; have g2 := cps_cases b; omega
  rw [ws_snoc hb h5 hn he] at hP1 hD1
  have e1 : st.map (cv (upA A b q9)) = st.map (cv A) := vNe_map (fun v z => hv v (List.mem_append_left _ z))
  have hL' : lv_has ls M.2.2.1 (lv.map (fun z => (z.1, cv (upA A b q9) z.2))) := by
    rw [vNe_lv (fun v z => hv v (List.mem_append_right _ z))]; exact hL
  have k9 := h p l e R s m args below meth c Ae ne D tc S (upA A b q9) H1 locs (cells + 1) (slots + L) ls C (by omega) (by omega) (by omega) (by omega) (Agr_up hb h3 h4) (WT_snoc hb h5 hf) hP1 hD1 hS1 hL'
  rw [List.map_cons, e1] at k9
  have e2 : cv (upA A b q9) (.ref b) = .ref q9 := by show Value.ref (if b = b then q9 else A b) = _; rw [if_pos rfl]
  rw [e2] at k9
  exact k9
theorem J_newI {x : Int32} {L b : Nat} (hb : cnm n = b) (hd : decode M.1 pc = .ok (.newarray .int, 2)) (hw : Cond.arrayClass .int ∈ WS) (hs : SH b = (1, L)) (hx : x.toNatClampNeg = L) (hx0 : ¬ x < 0) (hL9 : L ≤ 100000) (hn : b < 1000) (hf : fresh σ b) (hv : ∀ v ∈ st ++ lv.map Prod.snd, vNe b v) (hkc : kc2 + 1 ≤ kc) (hks : ks2 + L ≤ ks) (hq : pc + 2 = q)
    (h : J X M d kc2 ks2 F q lv (.ref b :: st) (n + 1) σ) : J X M d kc ks F pc lv (.int x :: st) n σ := by
  intro p l e R s m args below meth c Ae ne D tc S A H locs cells slots ls C h1 h2 h3 h3' h4 h5 hP hD hS hL
  subst hq
  refine va_newa (atype := .int) (ty := .int) (N' := L) (a0 := (L, .inl (fun _ => 0))) C.1.1 C.1.2.1 (C.1.2.2.2.2 _ hw) rfl C.2.2.2.2.2.2.1 hP hD hS C.2.2.2.2.2.2.2.2.1 (fun cA => rfl) hx0 hx (by show L * 4 ≤ _; omega) (by omega) (by omega) hd (fun q9 cA H1 hK1 hP1 hD1 hS1 => ?_)
  have ec := tc_eq (t := 0) hK1 rfl (by decide)
  subst ec
  refine J_newA hb C h1 h2 h3 h4 h5 hL hP1 hD1 hS1 ?_ hn hf hv hkc hks h
  rw [cell_ints (t := 0) (by rw [hs]; show _ = (1, (SH b).2); rw [hs]) (Or.inl rfl)]
  rw [show ln b = L by unfold ln; rw [hs]]
  rw [show (fun k => gI σ b k) = (fun _ => (0 : Int32)) from funext fun k => (hf k).1]
theorem J_newB {x : Int32} {L b : Nat} (hb : cnm n = b) (hd : decode M.1 pc = .ok (.newarray .byte, 2)) (hw : Cond.arrayClass .byte ∈ WS) (hs : SH b = (3, L)) (hx : x.toNatClampNeg = L) (hx0 : ¬ x < 0) (hL9 : L ≤ 100000) (hn : b < 1000) (hf : fresh σ b) (hv : ∀ v ∈ st ++ lv.map Prod.snd, vNe b v) (hkc : kc2 + 1 ≤ kc) (hks : ks2 + L ≤ ks) (hq : pc + 2 = q)
    (h : J X M d kc2 ks2 F q lv (.ref b :: st) (n + 1) σ) : J X M d kc ks F pc lv (.int x :: st) n σ := by
  intro p l e R s m args below meth c Ae ne D tc S A H locs cells slots ls C h1 h2 h3 h3' h4 h5 hP hD hS hL
  subst hq
  refine va_newa (atype := .byte) (ty := .byte) (N' := L) (a0 := (L, .inl (fun _ => 0))) C.1.1 C.1.2.1 (C.1.2.2.2.2 _ hw) rfl C.2.2.2.2.2.2.1 hP hD hS C.2.2.2.2.2.2.2.2.1 (fun cA => rfl) hx0 hx (by show L * 1 ≤ _; omega) (by omega) (by omega) hd (fun q9 cA H1 hK1 hP1 hD1 hS1 => ?_)
  have ec := tc_eq (t := 2) hK1 rfl (by decide)
  subst ec
  refine J_newA hb C h1 h2 h3 h4 h5 hL hP1 hD1 hS1 ?_ hn hf hv hkc hks h
  rw [cell_ints (t := 2) (by rw [hs]; show _ = (3, (SH b).2); rw [hs]) (Or.inr rfl)]
  rw [show ln b = L by unfold ln; rw [hs]]
  rw [show (fun k => gI σ b k) = (fun _ => (0 : Int32)) from funext fun k => (hf k).1]
theorem J_newL {x : Int32} {L b : Nat} (hb : cnm n = b) (hd : decode M.1 pc = .ok (.newarray .long, 2)) (hw : Cond.arrayClass .long ∈ WS) (hs : SH b = (2, L)) (hx : x.toNatClampNeg = L) (hx0 : ¬ x < 0) (hL9 : L ≤ 100000) (hn : b < 1000) (hf : fresh σ b) (hv : ∀ v ∈ st ++ lv.map Prod.snd, vNe b v) (hkc : kc2 + 1 ≤ kc) (hks : ks2 + L ≤ ks) (hq : pc + 2 = q)
    (h : J X M d kc2 ks2 F q lv (.ref b :: st) (n + 1) σ) : J X M d kc ks F pc lv (.int x :: st) n σ := by
  intro p l e R s m args below meth c Ae ne D tc S A H locs cells slots ls C h1 h2 h3 h3' h4 h5 hP hD hS hL
  subst hq
  refine va_newa (atype := .long) (ty := .long) (N' := L) (a0 := (L, .inr (.inl (fun _ => 0)))) C.1.1 C.1.2.1 (C.1.2.2.2.2 _ hw) rfl C.2.2.2.2.2.2.1 hP hD hS C.2.2.2.2.2.2.2.2.1 (fun cA => rfl) hx0 hx (by show L * 8 ≤ _; omega) (by omega) (by omega) hd (fun q9 cA H1 hK1 hP1 hD1 hS1 => ?_)
  have ec := tc_eq (t := 1) hK1 rfl (by decide)
  subst ec
  refine J_newA hb C h1 h2 h3 h4 h5 hL hP1 hD1 hS1 ?_ hn hf hv hkc hks h
  rw [cell_longs (by rw [hs]; show _ = (2, (SH b).2); rw [hs])]
  rw [show ln b = L by unfold ln; rw [hs]]
  rw [show (fun k => gL σ b k) = (fun _ => (0 : Int64)) from funext fun k => (hf k).2.1]
def tcR (t : Nat) : String := if t = 3 then RX3 else if t = 4 then RX5 else RX6
theorem J_newQ {x : Int32} {L t idx b : Nat} (hb : cnm n = b) (hd : decode M.1 pc = .ok (.anewarray idx, 3)) (ht : t = 3 ∨ t = 4 ∨ t = 5) (hw : Cond.classLink M.2.1 idx (tcR t) ∈ WS) (hs : SH b = (t + 1, L)) (hx : x.toNatClampNeg = L) (hx0 : ¬ x < 0) (hL9 : L ≤ 100000) (hn : b < 1000) (hf : fresh σ b) (hv : ∀ v ∈ st ++ lv.map Prod.snd, vNe b v) (hkc : kc2 + 1 ≤ kc) (hks : ks2 + L ≤ ks) (hq : pc + 3 = q)
    (h : J X M d kc2 ks2 F q lv (.ref b :: st) (n + 1) σ) : J X M d kc ks F pc lv (.int x :: st) n σ := by
  intro p l e R s m args below meth c Ae ne D tc S A H locs cells slots ls C h1 h2 h3 h3' h4 h5 hP hD hS hL
  subst hq
  have hao : va_AO (tcR t) s := by
    have hj := C.2.2.2.2.2.2.2.1.2.2.2.2.2.2.2.2.2.2
    rcases ht with rfl | rfl | rfl
    · exact hj.1
    · exact hj.2.1
    · exact hj.2.2
  refine va_newq (C := tcR t) (N' := L) C.1.1 C.1.2.1 C.1.2.2.2.1 (C.1.2.2.2.2 _ hw) hao C.2.2.2.2.2.2.1 hP hD hS C.2.2.2.2.2.2.2.2.1 hx0 hx (by omega) (by omega) (by omega) hd (fun q9 cA H1 hK1 hP1 hD1 hS1 => ?_)
  have ec : cA = tc t := by
    rcases ht with rfl | rfl | rfl
    · exact tc_eq (t := 3) hK1 rfl (by decide)
    · exact tc_eq (t := 4) hK1 rfl (by decide)
    · exact tc_eq (t := 5) hK1 rfl (by decide)
  subst ec
  refine J_newA hb C h1 h2 h3 h4 h5 hL hP1 hD1 hS1 ?_ hn hf hv hkc hks h
  rw [cell_refs (t := t) (by rw [hs]; show _ = (t + 1, (SH b).2); rw [hs]) (by omega)]
  rw [show ln b = L by unfold ln; rw [hs]]
  rw [show (fun k => (gR σ b k).map (upA A b q9)) = (fun _ => (none : Option Nat)) from funext fun k => by rw [(hf k).2.2]; rfl]
/-- an object into a row of objects -/
theorem J_aast {i v t : Nat} {j : Int32} (hd : decode M.1 pc = .ok (.aastore, 1)) (hr : RT n i (200 + t)) (ht : t = 3 ∨ t = 4 ∨ t = 5) (hv : RT n v (if t = 3 then 103 else if t = 4 then 105 else 106)) (hj : vp_in j (ln i)) (hq : pc + 1 = q) (h : J X M d kc ks F q lv st n (sR σ i j.toNatClampNeg (some v))) : J X M d kc ks F pc lv (.ref v :: .int j :: .ref i :: st) n σ := by
  intro p l e R s m args below meth c Ae ne D tc S A H locs cells slots ls C h1 h2 h3 h3' h4 h5 hP hD hS hL
  subst hq
  have hi := hr.2 (by omega)
  have hs := RT_arr hr
  have he := ws_get (A := A) (tc := tc) (σ := σ) hi
  rw [cell_refs hs (by omega)] at he
  have hvn : cps v < n := hv.2 (by rcases ht with rfl | rfl | rfl <;> decide)
  have hev := ws_get (A := A) (tc := tc) (σ := σ) hvn
  have hset : (wsOf A tc n σ).set (cps i) (A i, .inl (tc t, ln i, .inr (.inr (.inr (.inr (va_up (fun k => (gR σ i k).map A) j.toNatClampNeg (some (A v)))))))) = wsOf A tc n (sR σ i j.toNatClampNeg (some v)) := by
    refine ws_set hi ?_ (fun a ha => cell_ext (fun _ => rfl) (fun _ => rfl) (fun k => by rw [gR_sR, if_neg (fun w => ha w.1)]))
    rw [cell_refs hs (by omega)]
    refine congrArg (fun z => (.inl (tc t, ln i, .inr (.inr (.inr (.inr z)))) : va_E)) (funext fun k => ?_)
    rw [gR_sR]
    by_cases hk : k = j.toNatClampNeg
    · simp [va_up, hk]
    · simp [va_up, hk]
  have hW' : WT n (sR σ i j.toNatClampNeg (some v)) := by
    refine WT_sR h5 (fun z hz => ?_)
    cases hz
    have e1 : (SH i).1 = t + 1 := by rw [hs]
    have e2 : FK i j.toNatClampNeg = (if t = 3 then 103 else if t = 4 then 105 else 106) := by
      unfold FK
      rcases ht with rfl | rfl | rfl <;> simp [e1]
    rw [e2]; exact hv
  rcases ht with rfl | rfl | rfl
  · rw [cell_obj (SH_obj (ci := 3) hv (by decide))] at hev
    refine va_astq (r := (RX3, TX3, 5)) C.1.1 C.1.2.1 C.2.2.2.2.2.2.1 hP hD hS (cps i) 3 (cps v) 3 he rfl hev rfl hj hd (fun H1 locs1 hP1 hD1 hS1 => ?_)
    rw [hset] at hP1 hD1
    exact h p l e R s m args below meth c Ae ne D tc S A H1 locs1 cells slots ls C h1 h2 h3 h3' h4 hW' hP1 hD1 hS1 hL
  · rw [cell_obj (SH_obj (ci := 5) hv (by decide))] at hev
    refine va_astq (r := (RX5, TX5, 5)) C.1.1 C.1.2.1 C.2.2.2.2.2.2.1 hP hD hS (cps i) 4 (cps v) 5 he rfl hev rfl hj hd (fun H1 locs1 hP1 hD1 hS1 => ?_)
    rw [hset] at hP1 hD1
    exact h p l e R s m args below meth c Ae ne D tc S A H1 locs1 cells slots ls C h1 h2 h3 h3' h4 hW' hP1 hD1 hS1 hL
  · rw [cell_obj (SH_obj (ci := 6) hv (by decide))] at hev
    refine va_astq (r := (RX6, TX6, 7)) C.1.1 C.1.2.1 C.2.2.2.2.2.2.1 hP hD hS (cps i) 5 (cps v) 6 he rfl hev rfl hj hd (fun H1 locs1 hP1 hD1 hS1 => ?_)
    rw [hset] at hP1 hD1
    exact h p l e R s m args below meth c Ae ne D tc S A H1 locs1 cells slots ls C h1 h2 h3 h3' h4 hW' hP1 hD1 hS1 hL
/-- Object.<init> -/
theorem J_obj {idx i : Nat} (hd : decode M.1 pc = .ok (.invokespecial idx, 3)) (hl : Cond.methodLink M.2.1 idx Lib.objectInit ∈ WS) (h1w : Cond.instanceMethod Lib.objectInit ∈ WS) (h2w : Cond.code Lib.objectInit ⟨#[0xb1]⟩ 1 none ∈ WS) (hdd : 1 ≤ d) (hcat : (st.map fun v => v.category).sum ≤ 8) (hq : pc + 3 = q) (h : J X M d kc ks F q lv st n σ) : J X M d kc ks F pc lv (.ref i :: st) n σ := by
  intro p l e R s m args below meth c Ae ne D tc S A H locs cells slots ls C h1 h2 h3 h3' h4 h5 hP hD hS hL
  subst hq
  have hW := C.1.2.2.2.2
  have hr : 2 * (F0 m pc ls ((Value.ref i :: st).map (cv A))).monitorRoom + ((st.map (cv A)).map fun v => v.category).sum ≤ 8 := lv_room (by rw [cat_sum]; exact hcat)
  have hf := C.2.2.2.2.1
  have hl2 := C.2.2.2.2.2.1
  refine W.objInit C.1.1 C.1.2.1 C.1.2.2.2.1 (hW _ hl) (hW _ h1w) (hW _ h2w) rfl (hL.1.trans C.1.2.2.1.symm) rfl hd (by omega) (by omega) ?_
  exact h p l e R s m args below meth c Ae ne D tc S A H locs cells slots ls C h1 h2 h3 h3' h4 h5 hP hD hS hL
/-- a constructor's call -/
theorem J_callI {idx i : Nat} {st0 : List Value} (hd : decode M.1 pc = .ok (.invokespecial idx, 3)) (ml : MLi M.2.1 idx y M1 as.length) (hM : MT X y M1 d1 kc1 ks1 (.ref i :: as) n σ F1) (hst : as.reverse ++ .ref i :: st = st0) (hdd : d1 + 1 ≤ d) (hml : M1.2.2.1 ≤ 40) (hcat : (st.map fun v => v.category).sum ≤ 8) (hkc : kc1 + kc2 ≤ kc) (hks : ks1 + ks2 ≤ ks) (hnn : n ≤ F1.1) (hn9 : n ≤ 1000 → F1.1 ≤ 1000) (hv : F1.1 = n ∨ ∀ i, Value.ref i ∈ st ++ lv.map Prod.snd → cps i < n ∨ F1.1 ≤ cps i) (hq : pc + 3 = q)
    (h : J X M d kc2 ks2 F q lv (F1.2.1.toList ++ st) F1.1 F1.2.2) : J X M d kc ks F pc lv st0 n σ := by
  intro p l e R s m args below meth c Ae ne D tc S A H locs cells slots ls C h1 h2 h3 h3' h4 h5 hP hD hS hL
  subst hst
  have hW := C.1.2.2.2.2
  obtain ⟨m0, m1, m2, m3⟩ := ml
  have hSS : ∀ q, va_A (wsOf A tc n σ) H.size q → S q := by
    intro q hq
    rcases hq with ⟨k, e, hk⟩ | hq
    · exact hD.2 k _ hk
    · exact C.2.2.2.2.2.2.2.2.1 q (Nat.le_trans hS.1 hq)
  have hMl := hM l C.2.2.2.2.2.2.2.2.2.2 A D tc H.size
  have hcb := callB_WS (kc1 := kc1) (ks1 := ks1) hW m0 hdd hml C.2.2.2.2.1 C.2.2.2.2.2.1
  rw [m3] at hMl hcb
  refine J_after (ret1 := none) C h1 h2 h3 h3' h4 hD hS hL hkc hks hnn (hn9 h3') hv hq (fun _ => h) (va_runI (As := as.map (cv A)) (b := A i) (n := as.length) (Ts := WS) C.1 hMl ⟨hcb, m1, hW _ m2⟩
    ⟨jP_blind, fun U hU hUW => ⟨rfl, by rw [hU], by rw [hU]; exact hP, va_K.moved hUW.alike C.2.2.2.2.2.2.1, hD.weaken (fun _ _ _ _ => trivial), by rw [hU]; exact jK.call (jK.agr (fun z hz => h4.big h3' (by omega)) C.2.2.2.2.2.2.2.1) hS hUW hSS, h5, h3'⟩⟩
    rfl (by simp) hL.1 (by simp [cv]) (lv_room (by rw [cat_sum]; exact hcat)) hd ⟨by omega, by omega⟩)
/-- .. of a private one of a nest mate -/
def MLn (own : String) (idx : Nat) (y : MethodName) (M1 : JM) (k : Nat) : Prop := (own, idx, y) ∈ XWn ∧ Cond.initialized y.cls ∈ WS ∧ Cond.code y M1.1 M1.2.2.1 M1.2.2.2.1 ∈ WS ∧ (y.cls ≠ "java/lang/invoke/MethodHandle" ∧ y.cls ≠ "java/lang/invoke/VarHandle") ∧ (parseMethodDescriptor y.desc).map (fun d => d.parameters.length) = some k ∧ y.name = "<init>" ∧ Cond.instanceMethod y ∈ WS ∧ M1.2.2.2.1 = none
theorem J_callN {idx i : Nat} {st0 : List Value} (hd : decode M.1 pc = .ok (.invokespecial idx, 3)) (ml : MLn M.2.1 idx y M1 as.length) (hM : MT X y M1 d1 kc1 ks1 (.ref i :: as) n σ F1) (hst : as.reverse ++ .ref i :: st = st0) (hdd : d1 + 1 ≤ d) (hml : M1.2.2.1 ≤ 40) (hcat : (st.map fun v => v.category).sum ≤ 8) (hkc : kc1 + kc2 ≤ kc) (hks : ks1 + ks2 ≤ ks) (hnn : n ≤ F1.1) (hn9 : n ≤ 1000 → F1.1 ≤ 1000) (hv : F1.1 = n ∨ ∀ i, Value.ref i ∈ st ++ lv.map Prod.snd → cps i < n ∨ F1.1 ≤ cps i) (hq : pc + 3 = q)
    (h : J X M d kc2 ks2 F q lv (F1.2.1.toList ++ st) F1.1 F1.2.2) : J X M d kc ks F pc lv st0 n σ := by
  intro p l e R s m args below meth c Ae ne D tc S A H locs cells slots ls C h1 h2 h3 h3' h4 h5 hP hD hS hL
  subst hst
  have hW := C.1.2.2.2.2
  obtain ⟨m0, m1, m2, m3, m4, m5, m6, m7⟩ := ml
  have hSS : ∀ q, va_A (wsOf A tc n σ) H.size q → S q := by
    intro q hq
    rcases hq with ⟨k, e, hk⟩ | hq
    · exact hD.2 k _ hk
    · exact C.2.2.2.2.2.2.2.2.1 q (Nat.le_trans hS.1 hq)
  have hMl := hM l C.2.2.2.2.2.2.2.2.2.2 A D tc H.size
  have hnw : va_Nw (.methodLinkNest M.2.1 idx y RX9) s := C.2.2.2.2.2.2.2.1.2.2.2.2.2.2.2.1 _ m0
  have hf := C.2.2.2.2.1
  have hl2 := C.2.2.2.2.2.1
  have hcb : va_CN R s args M.2.1 idx y RX9 M1.1 M1.2.2.1 M1.2.2.2.1 (.code y M1.1 M1.2.2.1 M1.2.2.2.1 :: WS) { frames := d1, cells := kc1, slots := ks1, locals := 64 * d1 } kc1 ks1 as.length := by
    refine ⟨⟨rfl, rfl, by show d1 + 1 ≤ _; omega, by show 8 + (_ + 11) + 64 * d1 ≤ _; omega, fun w hw a' U hU => ?_, List.mem_cons_self⟩, hW _ m2, hW _ m1, m3, fun sig h => ?_, va_Nw.use rfl hnw⟩
    · have hw' : w ∈ WS := by
        rcases List.mem_cons.mp hw with e | e
        · rw [e]; exact m2
        · exact e
      exact word_at hU (WS_good hw') (hW w hw')
    · rw [h] at m4
      exact (Option.some.inj m4).symm
  rw [m7] at hMl hcb
  refine J_after (ret1 := none) C h1 h2 h3 h3' h4 hD hS hL hkc hks hnn (hn9 h3') hv hq (fun _ => h) (va_runIN (As := as.map (cv A)) (b := A i) (n := as.length) (Ts := WS) C.1 hMl ⟨hcb, m5, hW _ m6⟩
    ⟨jP_blind, fun U hU hUW => ⟨rfl, by rw [hU], by rw [hU]; exact hP, va_K.moved hUW.alike C.2.2.2.2.2.2.1, hD.weaken (fun _ _ _ _ => trivial), by rw [hU]; exact jK.call (jK.agr (fun z hz => h4.big h3' (by omega)) C.2.2.2.2.2.2.2.1) hS hUW hSS, h5, h3'⟩⟩
    rfl (by simp) hL.1 (by simp [cv]) (lv_room (by rw [cat_sum]; exact hcat)) hd ⟨by omega, by omega⟩)
end JN
