/-! texts: their fields, their bytes, their methods' calls -/
section TextM
variable {X : XS} {M M1 : JM} {d d1 kc ks kc1 ks1 kc2 ks2 : Nat} {F F1 : Nat × Option Value × Mm} {pc q : Nat} {lv : List (Nat × Value)} {st as : List Value} {n : Nat} {σ : Mm} {y : MethodName}
theorem J_ktv {idx j : Nat} (hd : decode M.1 pc = .ok (.getfield idx, 3)) (hj : j < 6) (hl : Cond.fieldLink M.2.1 idx "java/lang/String" "value" "[B" ∈ WS) (hq : pc + 3 = q) (h : J X M d kc ks F q lv (.ref (1101 + 2 * j) :: st) n σ) : J X M d kc ks F pc lv (.ref (1100 + 2 * j) :: st) n σ := by
  intro p l e R s m args below meth c Ae ne D tc S A H locs cells slots ls C h1 h2 h3 h3' h4 h5 hP hD hS hL
  subst hq
  have eA : A (1100 + 2 * j) = Ae (1100 + 2 * j) := h4 _ (by omega)
  have eB : A (1101 + 2 * j) = Ae (1101 + 2 * j) := h4 _ (by omega)
  have hT := (C.2.2.2.2.2.2.2.1.2.2.1.1.1 j hj).2.2.1
  dsimp only at hT
  rw [← eA, ← eB] at hT
  exact vk_getf C.1.1 C.1.2.1 hT hS C.1.2.2.2.1 (C.1.2.2.2.2 _ hl) (fun _ hx => hx) hd (h p l e R s m args below meth c Ae ne D tc S A H locs cells slots ls C h1 h2 h3 h3' h4 h5 hP hD hS hL)
theorem J_ktc {idx j : Nat} (hd : decode M.1 pc = .ok (.getfield idx, 3)) (hj : j < 6) (hl : Cond.fieldLink M.2.1 idx "java/lang/String" "coder" "B" ∈ WS) (hq : pc + 3 = q) (h : J X M d kc ks F q lv (.int 0 :: st) n σ) : J X M d kc ks F pc lv (.ref (1100 + 2 * j) :: st) n σ := by
  intro p l e R s m args below meth c Ae ne D tc S A H locs cells slots ls C h1 h2 h3 h3' h4 h5 hP hD hS hL
  subst hq
  have eA : A (1100 + 2 * j) = Ae (1100 + 2 * j) := h4 _ (by omega)
  have hT := (C.2.2.2.2.2.2.2.1.2.2.1.1.1 j hj).2.1
  dsimp only at hT
  rw [← eA] at hT
  exact vk_getf C.1.1 C.1.2.1 hT hS C.1.2.2.2.1 (C.1.2.2.2.2 _ hl) (fun _ hx => hx) hd (h p l e R s m args below meth c Ae ne D tc S A H locs cells slots ls C h1 h2 h3 h3' h4 h5 hP hD hS hL)
theorem J_ktlen {j : Nat} {x : Int32} (hd : decode M.1 pc = .ok (.arraylength, 1)) (hj : j < 6) (hx : nI (lenKS.getD j 0) = x) (hq : pc + 1 = q) (h : J X M d kc ks F q lv (.int x :: st) n σ) : J X M d kc ks F pc lv (.ref (1101 + 2 * j) :: st) n σ := by
  intro p l e R s m args below meth c Ae ne D tc S A H locs cells slots ls C h1 h2 h3 h3' h4 h5 hP hD hS hL
  subst hq
  have eB : A (1101 + 2 * j) = Ae (1101 + 2 * j) := h4 _ (by omega)
  have hT := (C.2.2.2.2.2.2.2.1.2.2.1.1.1 j hj).2.2.2
  dsimp only at hT
  rw [← eB] at hT
  exact va_tlen C.1.1 C.1.2.1 hT hS hx hd (h p l e R s m args below meth c Ae ne D tc S A H locs cells slots ls C h1 h2 h3 h3' h4 h5 hP hD hS hL)
theorem J_ktb {j : Nat} {k : Int32} (hd : decode M.1 pc = .ok (.baload, 1)) (hj : j < 6) (hk : ixB k (lenKS.getD j 0) = true) (hq : pc + 1 = q) (h : J X M d kc ks F q lv (.int ((bytKS.getD j []).getD k.toNatClampNeg 0) :: st) n σ) : J X M d kc ks F pc lv (.int k :: .ref (1101 + 2 * j) :: st) n σ := by
  intro p l e R s m args below meth c Ae ne D tc S A H locs cells slots ls C h1 h2 h3 h3' h4 h5 hP hD hS hL
  subst hq
  have eB : A (1101 + 2 * j) = Ae (1101 + 2 * j) := h4 _ (by omega)
  have hT := (C.2.2.2.2.2.2.2.1.2.2.1.1.1 j hj).2.2.2
  dsimp only at hT
  rw [← eB] at hT
  exact va_tb C.1.1 C.1.2.1 hT hS (ixB_ok hk) rfl hd (h p l e R s m args below meth c Ae ne D tc S A H locs cells slots ls C h1 h2 h3 h3' h4 h5 hP hD hS hL)
theorem J_kts {idx : Nat} (hd : decode M.1 pc = .ok (.getstatic idx, 3)) (hl : Cond.fieldLink M.2.1 idx "java/lang/String" "COMPACT_STRINGS" "Z" ∈ WS) (hq : pc + 3 = q) (h : J X M d kc ks F q lv (.int 1 :: st) n σ) : J X M d kc ks F pc lv st n σ := by
  intro p l e R s m args below meth c Ae ne D tc S A H locs cells slots ls C h1 h2 h3 h3' h4 h5 hP hD hS hL
  subst hq
  exact va_gets C.1.1 C.1.2.1 C.2.2.2.2.2.2.2.1.2.2.2.1 hS C.1.2.2.2.1 (C.1.2.2.2.2 _ hl) (fun _ hx => hx) hd (h p l e R s m args below meth c Ae ne D tc S A H locs cells slots ls C h1 h2 h3 h3' h4 h5 hP hD hS hL)
def MLt (own : String) (idx : Nat) (y : MethodName) (M1 : JM) (k : Nat) : Prop := MLk own idx y M1 k ∧ Cond.instanceMethod y ∈ WS ∧ Cond.selects y.cls y y ∈ WS ∧ y.cls = "java/lang/String"
/-- a method of a text -/
theorem J_callT {idx j : Nat} {st0 : List Value} (hd : decode M.1 pc = .ok (.invokevirtual idx, 3)) (ml : MLt M.2.1 idx y M1 as.length) (hj : j < 6) (hM : MT X y M1 d1 kc1 ks1 (.ref (1100 + 2 * j) :: as) n σ F1) (hst : as.reverse ++ .ref (1100 + 2 * j) :: st = st0) (hdd : d1 + 1 ≤ d) (hml : M1.2.2.1 ≤ 40) (hcat : (st.map fun v => v.category).sum ≤ 8) (hkc : kc1 + kc2 ≤ kc) (hks : ks1 + ks2 ≤ ks) (hnn : n ≤ F1.1) (hn9 : n ≤ 1000 → F1.1 ≤ 1000) (hv : F1.1 = n ∨ ∀ i, Value.ref i ∈ st ++ lv.map Prod.snd → i < n ∨ F1.1 ≤ i) (hq : pc + 3 = q)
    (h : okR M1.2.2.2.1 F1.2.1 → J X M d kc2 ks2 F q lv (F1.2.1.toList ++ st) F1.1 F1.2.2) : J X M d kc ks F pc lv st0 n σ := by
  intro p l e R s m args below meth c Ae ne D tc S A H locs cells slots ls C h1 h2 h3 h3' h4 h5 hP hD hS hL
  subst hst
  have hW := C.1.2.2.2.2
  obtain ⟨m0, m1, m2, m3⟩ := ml
  have hSS : ∀ q, va_A (wsOf A tc n σ) H.size q → S q := by
    intro q hq
    rcases hq with ⟨k, e, hk⟩ | hq
    · exact hD.2 k _ hk
    · exact C.2.2.2.2.2.2.2.2.1 q (Nat.le_trans hS.1 hq)
  have hrc := vk_recv C.2.2.2.2.2.2.2.1.2.2.1.1 hj hS
  have eA : A (1100 + 2 * j) = Ae (1100 + 2 * j) := h4 _ (by omega)
  rw [← eA, ← m3] at hrc
  refine J_after C h1 h2 h3 h3' h4 hD hS hL hkc hks hnn (hn9 h3') hv hq h (va_runV (As := as.map (cv A)) (b := A (1100 + 2 * j)) (n := as.length) (Ts := WS) (C := y.cls) C.1 (hM l A D tc H.size) ⟨callB_WS hW m0 hdd hml C.2.2.2.2.1 C.2.2.2.2.2.1, hW _ m1, hW _ m2⟩
    ⟨jP_blind, hrc, fun U hU hUW => ⟨rfl, by rw [hU], by rw [hU]; exact hP, va_K.moved hUW.alike C.2.2.2.2.2.2.1, hD.weaken (fun _ _ _ _ => trivial), by rw [hU]; exact jK.call (jK.agr (fun z hz => h4 z (by omega)) C.2.2.2.2.2.2.2.1) hS hUW hSS, h5, h3'⟩⟩
    rfl (by simp) hL.1 (by simp [cv]) (lv_room (by rw [cat_sum]; exact hcat)) hd ⟨by omega, by omega⟩)
end TextM
