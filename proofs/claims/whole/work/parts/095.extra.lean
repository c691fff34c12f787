theorem J_ldcwS {X : XS} {M : JM} {d kc ks : Nat} {F : Nat × Option Value × Mm} {pc q : Nat} {lv : List (Nat × Value)} {st : List Value} {n : Nat} {σ : Mm} {idx j : Nat} {tx : String} (hd : decode M.1 pc = .ok (.ldc_w idx, 3)) (hj : (M.2.1, idx, tx, j) ∈ txKS) (hq : pc + 3 = q) (h : J X M d kc ks F q lv (.ref (1100 + 2 * j) :: st) n σ) : J X M d kc ks F pc lv st n σ := by
  intro p l e R s m args below meth c Ae ne D tc S A H locs cells slots ls C h1 h2 h3 h3' h4 h5 hP hD hS hL
  subst hq
  have eA : A (1100 + 2 * j) = Ae (1100 + 2 * j) := h4.big h3' (by omega)
  have hZ := C.2.2.2.2.2.2.2.1.2.2.1.2 _ hj
  intro T hT X0
  obtain ⟨t, a1, b1⟩ := h p l e R s m args below meth c Ae ne D tc S A H locs cells slots ls C h1 h2 h3 h3' h4 h5 hP hD hS hL T hT X0
  refine ⟨t, X0.ldcStringW C.1.1 C.1.2.2.2.1 (text := tx) (a := Ae (1100 + 2 * j)) hZ.1 hZ.2 (g := F0 m pc ls (st.map (cv A))) rfl (by rw [C.1.2.1]; exact hd) t ?_, b1⟩
  rw [← eA]
  exact a1
