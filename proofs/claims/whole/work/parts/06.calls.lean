/-! calls -/
def jP (X : XS) (as : List Value) (A : Nat → Nat) (D : va_G) (tc : Nat → ClassId) (sz n : Nat) (σ : Mm) : Array Value → State → Prop :=
  va_Pc (as.map (cv A)) (fun U => U.heap.size = sz ∧ va_P D vwCl (wsOf A tc n σ) U.heap ∧ va_K D vwCl (tysOf tc) U ∧ va_D (fun _ => True) (wsOf A tc n σ) ∧ jK X A (va_A (wsOf A tc n σ) sz) U U.heap ∧ WT n σ ∧ n ≤ 1000)
theorem jP_blind {X : XS} {as : List Value} {A : Nat → Nat} {D : va_G} {tc : Nat → ClassId} {sz n : Nat} {σ : Mm} : FrameBlind (jP X as A D tc sz n σ) := by
  intro a U g mk ⟨q0, q1, qP, qK, qD, qC, qr⟩
  exact ⟨q0, q1, qP, va_K.moved (u := U) (U := U.calling g mk a) (Vm.Alike.refl U.vm) qK, qD, jK.same (u := U) (U := U.calling g mk a) rfl qC, qr⟩
def MT (X : XS) (y : MethodName) (M : JM) (d kc ks : Nat) (as : List Value) (n : Nat) (σ : Mm) (F : Nat × Option Value × Mm) : Prop :=
  ∀ (l : Launch), l.stackTraces = false → ∀ (A : Nat → Nat) (D : va_G) (tc : Nat → ClassId) (sz : Nat),
    Met l y (.code y M.1 M.2.2.1 M.2.2.2.1 :: WS) { frames := d, cells := kc, slots := ks, locals := 64 * d } (jP X as A D tc sz n σ) (jQ M.2.2.2.1 A n D tc (va_A (wsOf A tc n σ) sz) F.1 F.2.1 F.2.2) kc ks (va_A (wsOf A tc n σ) sz)
theorem lv_args_map (A : Nat → Nat) : ∀ (i : Nat) (as : List Value), lv_args i (as.map (cv A)) = (lv_args i as).map (fun q => (q.1, cv A q.2))
  | _, [] => rfl
  | i, v :: vs => by
    show (i, cv A v) :: lv_args (if (cv A v).category = 2 then i + 2 else i + 1) (vs.map (cv A)) = (i, cv A v) :: (lv_args (if v.category = 2 then i + 2 else i + 1) vs).map _
    rw [cv_cat, lv_args_map A _ vs]
theorem lg_sl_len (A : Nat → Nat) (as : List Value) : (lg_sl (as.map (cv A))).length = (lg_sl as).length := by
  induction as with
  | nil => rfl
  | cons v vs ih =>
    simp only [lg_sl, List.map_cons, List.flatMap_cons, List.length_append, cv_cat] at ih ⊢
    rw [ih]
    split <;> rfl
section JC
variable {X : XS} {M M1 : JM} {d d1 kc ks kc1 ks1 kc2 ks2 : Nat} {F F1 : Nat × Option Value × Mm} {pc q : Nat} {lv : List (Nat × Value)} {st : List Value} {n : Nat} {σ : Mm} {y : MethodName} {as : List Value}
theorem MT_of (hy : plainName y.cls = true) (hown : M.2.1 = y.cls) (hini : M.2.2.2.2 = true → y.name = "<init>") (hlen : (lg_sl as).length ≤ M.2.2.1) (h : J X M d kc ks F 0 (lv_args 0 as) [] n σ) : MT X y M d kc ks as n σ F := by
  intro l hfl A D tc sz
  refine Met.ofW (cc := M.1) (maxL := M.2.2.1) (ret := M.2.2.2.1) hy rfl ?_
  intro p e s m args below meth c s₁ B hml hv
  obtain ⟨rfl, hsz, hP, hK, hD0, hC, hW, hn⟩ := hv
  have hts := atoms_spec (ws := .code y M.1 M.2.2.1 M.2.2.2.1 :: WS) B.pre
  have hown' : s.vm.findClass y.cls = some m.cls := findClass_of_methodNamed B.named
  subst hsz
  have hl := lv_entry (as.map (cv A)) (n := M.2.2.1) (by rw [lg_sl_len]; exact hlen)
  rw [lv_args_map] at hl
  rw [lg_entry_eq]
  exact h p l e _ s m _ below meth c A n D tc (va_A (wsOf A tc n σ) s.heap.size) A s.heap [] 0 0 _ ⟨⟨B.exec, B.bytes, hml, by rw [hown]; exact hown', fun w hw => hts w (List.mem_cons_of_mem _ hw)⟩, B.returns, B.notSynchronized, fun q => (name_of_methodNamed B.named B.method).1.trans (hini q), Nat.le_refl _, Nat.le_refl _, hK, hC, fun q hq => Or.inr hq, hn, hfl⟩ (Nat.le_of_eq (Nat.zero_add _)) (Nat.le_of_eq (Nat.zero_add _)) (Nat.le_refl _) hn (fun _ _ => rfl) hW hP hD0.self va_S.rf hl
theorem vOK_map {n n' : Nat} {A A' : Nat → Nat} (hA : Agr n n' A A') {st : List Value} (hv : n' = n ∨ ∀ i, Value.ref i ∈ st → cps i < n ∨ n' ≤ cps i) : st.map (cv A') = st.map (cv A) := by
  apply List.map_congr_left
  intro v hvs
  cases v with
  | ref i =>
    show Value.ref (A' i) = Value.ref (A i)
    rcases hv with hv | hv
    · rw [hA i (by omega)]
    · rw [hA i (hv i hvs)]
  | _ => rfl
theorem J_after {p : Program} {l : Launch} {e : Env} {R : Room} {s : State} {m : MethodId} {args : Array Value} {below : List Frame} {meth : Method} {c : Code} {Ae : Nat → Nat} {ne : Nat} {D : va_G} {tc : Nat → ClassId} {S : Nat → Prop} {A : Nat → Nat} {H : Heap} {locs : List Loc} {cells slots : Nat} {ls : Array Slot} {ret1 : Option FieldType} {st0 : List Value} {a : Array Value}
    (C : jC X M d p l R s m args meth c Ae ne D tc S) (h1 : cells + kc ≤ R.cells) (h2 : slots + ks ≤ R.slots) (h3 : ne ≤ n) (h3' : n ≤ 1000) (h4 : Agr ne n Ae A) (hD : va_D S (wsOf A tc n σ)) (hS : va_S S s.heap H locs) (hL : lv_has ls M.2.2.1 (lv.map (fun q => (q.1, cv A q.2))))
    (hkc : kc1 + kc2 ≤ kc) (hks : ks1 + ks2 ≤ ks) (hnn : n ≤ F1.1) (hn9 : F1.1 ≤ 1000) (hv : F1.1 = n ∨ ∀ i, Value.ref i ∈ st ++ lv.map Prod.snd → cps i < n ∨ F1.1 ≤ cps i) (hq : pc + 3 = q)
    (h : okR ret1 F1.2.1 → J X M d kc2 ks2 F q lv (F1.2.1.toList ++ st) F1.1 F1.2.2)
    (hr : va_Run p l e R s m args below meth c H locs cells slots kc1 ks1 (F0 m pc ls st0) (st.map (cv A)) (jQ ret1 A n D tc (va_A (wsOf A tc n σ) H.size) F1.1 F1.2.1 F1.2.2 a) (va_A (wsOf A tc n σ) H.size)) :
    W p l e R s m args below meth c H locs cells slots (MQ below (jQ M.2.2.2.1 Ae ne D tc S F.1 F.2.1 F.2.2) args s R.cells R.slots S) (F0 m pc ls st0) := by
  subst hq
  have hSS : ∀ q, va_A (wsOf A tc n σ) H.size q → S q := by
    intro q hq
    rcases hq with ⟨k, e, hk⟩ | hq
    · exact hD.2 k _ hk
    · exact C.2.2.2.2.2.2.2.2.1 q (Nat.le_trans hS.1 hq)
  intro T hT X0
  obtain ⟨v, st₀, t, T', L, h0, X', hL', e1, e2, ⟨⟨A', g1, g2, g3, g4, g5, g6⟩, hz, hk⟩, stp⟩ := hr T hT X0
  cases g2
  rw [h0] at hz hk
  have hlv : lv.map (fun q => (q.1, cv A' q.2)) = lv.map (fun q => (q.1, cv A q.2)) := by
    apply List.map_congr_left
    intro w hw
    have := vOK_map g1 (st := [w.2]) (hv.imp id (fun z i hi => z i (by
      rw [List.mem_singleton] at hi
      exact List.mem_append_right _ (by rw [hi]; exact List.mem_map_of_mem hw))))
    simp only [List.map_cons, List.map_nil, List.cons.injEq, and_true] at this
    rw [this]
  have hst : (F1.2.1.map (cv A')).toList ++ st.map (cv A) = (F1.2.1.toList ++ st).map (cv A') := by
    rw [List.map_append, vOK_map g1 (st := st) (hv.imp id (fun z i hi => z i (List.mem_append_left _ hi)))]
    cases F1.2.1 <;> rfl
  obtain ⟨t2, a1, b1⟩ := h g3 p l e R s m args below meth c Ae ne D tc S A' T'.heap (locs ++ L) (cells + kc1) (slots + ks1) ls C (by omega) (by omega) (by omega) hn9
    (fun i hi => (g1 i (by omega)).trans (h4 i (by omega))) g4 (by rw [e1]; exact g5) (g6.weaken (fun k x _ z => hSS _ z))
    ⟨Nat.le_trans hS.1 (by rw [e1]; exact hz), fun q h1 h2 => by rw [e1, hk q (Nat.lt_of_lt_of_le h1 hS.1) (fun z => h2 (hSS q z))]; exact hS.2.1 q h1 h2, fun q hq => by
      rcases List.mem_append.mp hq with h | h
      · exact hS.2.2 q h
      · exact hSS _ (hL' q h)⟩ (by rw [hlv]; exact hL) T' rfl X'
  rw [← hst] at a1
  exact ⟨t2, stp t2 a1, b1⟩
/-- what a call's site needs of the tables -/
def MLk (own : String) (idx : Nat) (y : MethodName) (M1 : JM) (k : Nat) : Prop := Cond.methodLink own idx y ∈ WS ∧ Cond.initialized y.cls ∈ WS ∧ Cond.code y M1.1 M1.2.2.1 M1.2.2.2.1 ∈ WS ∧ (y.cls ≠ "java/lang/invoke/MethodHandle" ∧ y.cls ≠ "java/lang/invoke/VarHandle") ∧ (parseMethodDescriptor y.desc).map (fun d => d.parameters.length) = some k
def MLv (own : String) (idx : Nat) (y : MethodName) (M1 : JM) (k ci : Nat) : Prop := MLk own idx y M1 k ∧ Cond.instanceMethod y ∈ WS ∧ Cond.selects y.cls y y ∈ WS ∧ ci < 11 ∧ ∃ T N, vwCl[ci]? = some (y.cls, T, N)
def MLs (own : String) (idx : Nat) (y : MethodName) (M1 : JM) (k : Nat) : Prop := MLk own idx y M1 k ∧ Cond.static y ∈ WS
def MLi (own : String) (idx : Nat) (y : MethodName) (M1 : JM) (k : Nat) : Prop := MLk own idx y M1 k ∧ y.name = "<init>" ∧ Cond.instanceMethod y ∈ WS ∧ M1.2.2.2.1 = none
theorem callB_WS {R : Room} {s : State} {args : Array Value} {own : String} {idx k : Nat} (hW : ∀ w ∈ WS, w.before args s = true) (ml : MLk own idx y M1 k) (hd : d1 + 1 ≤ d) (hm : M1.2.2.1 ≤ 40) (hf : d ≤ R.frames) (hl : 64 * d ≤ R.locals) : CallB R s args own idx y M1.1 M1.2.2.1 M1.2.2.2.1 (.code y M1.1 M1.2.2.1 M1.2.2.2.1 :: WS) { frames := d1, cells := kc1, slots := ks1, locals := 64 * d1 } kc1 ks1 k := by
  obtain ⟨m1, m2, m3, m4, m5⟩ := ml
  refine ⟨rfl, rfl, by show d1 + 1 ≤ _; omega, by show 8 + (_ + 11) + 64 * d1 ≤ _; omega, fun w hw a' U hU => ?_, List.mem_cons_self, hW _ m3, hW _ m2, m4, fun sig h => ?_, hW _ m1⟩
  · have hw' : w ∈ WS := by
      rcases List.mem_cons.mp hw with e | e
      · rw [e]; exact m3
      · exact e
    exact word_at hU (WS_good hw') (hW w hw')
  · rw [h] at m5
    exact (Option.some.inj m5).symm
theorem cat_sum (A : Nat → Nat) (st : List Value) : ((st.map (cv A)).map fun v => v.category).sum = (st.map fun v => v.category).sum := by
  rw [List.map_map]
  congr 1
  apply List.map_congr_left
  intro v _
  exact cv_cat A v
theorem J_callV {idx ci i : Nat} {st0 : List Value} (hd : decode M.1 pc = .ok (.invokevirtual idx, 3)) (ml : MLv M.2.1 idx y M1 as.length ci) (hr : RT n i (100 + ci)) (hM : MT X y M1 d1 kc1 ks1 (.ref i :: as) n σ F1) (hst : as.reverse ++ .ref i :: st = st0) (hdd : d1 + 1 ≤ d) (hml : M1.2.2.1 ≤ 40) (hcat : (st.map fun v => v.category).sum ≤ 8) (hkc : kc1 + kc2 ≤ kc) (hks : ks1 + ks2 ≤ ks) (hnn : n ≤ F1.1) (hn9 : n ≤ 1000 → F1.1 ≤ 1000) (hv : F1.1 = n ∨ ∀ i, Value.ref i ∈ st ++ lv.map Prod.snd → cps i < n ∨ F1.1 ≤ cps i) (hq : pc + 3 = q)
    (h : okR M1.2.2.2.1 F1.2.1 → J X M d kc2 ks2 F q lv (F1.2.1.toList ++ st) F1.1 F1.2.2) : J X M d kc ks F pc lv st0 n σ := by
  intro p l e R s m args below meth c Ae ne D tc S A H locs cells slots ls C h1 h2 h3 h3' h4 h5 hP hD hS hL
  subst hst
  have hW := C.1.2.2.2.2
  obtain ⟨m0, m1, m2, m3, T, N, m4⟩ := ml
  have hi := hr.2 (by omega)
  have he := ws_get (A := A) (tc := tc) (σ := σ) hi
  rw [cell_obj (SH_obj hr (by omega))] at he
  have hSS : ∀ q, va_A (wsOf A tc n σ) H.size q → S q := by
    intro q hq
    rcases hq with ⟨k, e, hk⟩ | hq
    · exact hD.2 k _ hk
    · exact C.2.2.2.2.2.2.2.2.1 q (Nat.le_trans hS.1 hq)
  refine J_after C h1 h2 h3 h3' h4 hD hS hL hkc hks hnn (hn9 h3') hv hq h (va_runV (As := as.map (cv A)) (b := A i) (n := as.length) (Ts := WS) (C := y.cls) C.1 (hM l C.2.2.2.2.2.2.2.2.2.2 A D tc H.size) ⟨callB_WS hW m0 hdd hml C.2.2.2.2.1 C.2.2.2.2.2.1, hW _ m1, hW _ m2⟩
    ⟨jP_blind, va_recv (q := (y.cls, T, N)) C.2.2.2.2.2.2.1 hP m4 he, fun U hU hUW => ⟨rfl, by rw [hU], by rw [hU]; exact hP, va_K.moved hUW.alike C.2.2.2.2.2.2.1, hD.weaken (fun _ _ _ _ => trivial), by rw [hU]; exact jK.call (jK.agr (fun z hz => h4.big h3' (by omega)) C.2.2.2.2.2.2.2.1) hS hUW hSS, h5, h3'⟩⟩
    rfl (by simp) hL.1 (by simp [cv]) (lv_room (by rw [cat_sum]; exact hcat)) hd ⟨by omega, by omega⟩)
theorem J_callS {idx : Nat} {st0 : List Value} (hd : decode M.1 pc = .ok (.invokestatic idx, 3)) (ml : MLs M.2.1 idx y M1 as.length) (hM : MT X y M1 d1 kc1 ks1 as n σ F1) (hst : as.reverse ++ st = st0) (hdd : d1 + 1 ≤ d) (hml : M1.2.2.1 ≤ 40) (hcat : (st.map fun v => v.category).sum ≤ 8) (hkc : kc1 + kc2 ≤ kc) (hks : ks1 + ks2 ≤ ks) (hnn : n ≤ F1.1) (hn9 : n ≤ 1000 → F1.1 ≤ 1000) (hv : F1.1 = n ∨ ∀ i, Value.ref i ∈ st ++ lv.map Prod.snd → cps i < n ∨ F1.1 ≤ cps i) (hq : pc + 3 = q)
    (h : okR M1.2.2.2.1 F1.2.1 → J X M d kc2 ks2 F q lv (F1.2.1.toList ++ st) F1.1 F1.2.2) : J X M d kc ks F pc lv st0 n σ := by
  intro p l e R s m args below meth c Ae ne D tc S A H locs cells slots ls C h1 h2 h3 h3' h4 h5 hP hD hS hL
  subst hst
  have hW := C.1.2.2.2.2
  obtain ⟨m0, m1⟩ := ml
  have hSS : ∀ q, va_A (wsOf A tc n σ) H.size q → S q := by
    intro q hq
    rcases hq with ⟨k, e, hk⟩ | hq
    · exact hD.2 k _ hk
    · exact C.2.2.2.2.2.2.2.2.1 q (Nat.le_trans hS.1 hq)
  refine J_after C h1 h2 h3 h3' h4 hD hS hL hkc hks hnn (hn9 h3') hv hq h (va_runS (As := as.map (cv A)) (n := as.length) (Ts := WS) C.1 (hM l C.2.2.2.2.2.2.2.2.2.2 A D tc H.size) ⟨callB_WS hW m0 hdd hml C.2.2.2.2.1 C.2.2.2.2.2.1, hW _ m1⟩
    ⟨jP_blind, fun U hU hUW => ⟨rfl, by rw [hU], by rw [hU]; exact hP, va_K.moved hUW.alike C.2.2.2.2.2.2.1, hD.weaken (fun _ _ _ _ => trivial), by rw [hU]; exact jK.call (jK.agr (fun z hz => h4.big h3' (by omega)) C.2.2.2.2.2.2.2.1) hS hUW hSS, h5, h3'⟩⟩
    rfl (by simp) hL.1 (by simp [cv]) (lv_room (by rw [cat_sum]; exact hcat)) hd ⟨by omega, by omega⟩)
end JC
