/-! Math, copies, static rows, texts -/
theorem zB_nar {x : Int32} (h : zB x = true) : narrow .boolean (.int x) = .int x := by rcases zB_ok h with h | h <;> (subst h; rfl)
theorem zB_fit {x : Int32} (h : zB x = true) : fits .boolean (.int x) = true := by rcases zB_ok h with h | h <;> (subst h; rfl)
section JMo
variable {X : XS} {M : JM} {d kc ks : Nat} {F : Nat × Option Value × Mm} {pc q : Nat} {lv : List (Nat × Value)} {st : List Value} {n : Nat} {σ : Mm}
theorem J_mmax {idx : Nat} {x y : Int32} (hd : decode M.1 pc = .ok (.invokestatic idx, 3)) (h1 : Cond.methodLink M.2.1 idx Lib.Math.max.name ∈ WS) (h2 : Cond.static Lib.Math.max.name ∈ WS) (h3 : Cond.initialized "java/lang/Math" ∈ WS) (h4 : Cond.code Lib.Math.max.name Lib.Math.max.code 2 (some .int) ∈ WS) (hdd : 1 ≤ d) (hcat : (st.map fun v => v.category).sum ≤ 8) (hq : pc + 3 = q) (h : J X M d kc ks F q lv (.int (maxI x y) :: st) n σ) : J X M d kc ks F pc lv (.int y :: .int x :: st) n σ := by
  intro p l e R s m args below meth c Ae ne D tc S A H locs cells slots ls C g1 g2 g3 g3' g4 g5 hP hD hS hL
  subst hq
  have hW := C.1.2.2.2.2
  have e1 := C.2.2.2.2.1
  have e2 := C.2.2.2.2.2.1
  exact va_mmax C.1.1 C.1.2.1 (C.1.2.2.1.trans hL.1.symm) C.1.2.2.2.1 (hW _ h1) (hW _ h2) (hW _ h3) (hW _ h4) (by omega) (by rw [cat_sum]; omega) (by omega) (by omega) hd (h p l e R s m args below meth c Ae ne D tc S A H locs cells slots ls C g1 g2 g3 g3' g4 g5 hP hD hS hL)
theorem J_mmin {idx : Nat} {x y : Int32} (hd : decode M.1 pc = .ok (.invokestatic idx, 3)) (h1 : Cond.methodLink M.2.1 idx Lib.Math.min.name ∈ WS) (h2 : Cond.static Lib.Math.min.name ∈ WS) (h3 : Cond.initialized "java/lang/Math" ∈ WS) (h4 : Cond.code Lib.Math.min.name Lib.Math.min.code 2 (some .int) ∈ WS) (hdd : 1 ≤ d) (hcat : (st.map fun v => v.category).sum ≤ 8) (hq : pc + 3 = q) (h : J X M d kc ks F q lv (.int (minI x y) :: st) n σ) : J X M d kc ks F pc lv (.int y :: .int x :: st) n σ := by
  intro p l e R s m args below meth c Ae ne D tc S A H locs cells slots ls C g1 g2 g3 g3' g4 g5 hP hD hS hL
  subst hq
  have hW := C.1.2.2.2.2
  have e1 := C.2.2.2.2.1
  have e2 := C.2.2.2.2.2.1
  exact va_mmin C.1.1 C.1.2.1 (C.1.2.2.1.trans hL.1.symm) C.1.2.2.2.1 (hW _ h1) (hW _ h2) (hW _ h3) (hW _ h4) (by omega) (by rw [cat_sum]; omega) (by omega) (by omega) hd (h p l e R s m args below meth c Ae ne D tc S A H locs cells slots ls C g1 g2 g3 g3' g4 g5 hP hD hS hL)
theorem J_mabs {idx : Nat} {x : Int32} (hd : decode M.1 pc = .ok (.invokestatic idx, 3)) (h1 : Cond.methodLink M.2.1 idx Lib.Math.abs.name ∈ WS) (h2 : Cond.static Lib.Math.abs.name ∈ WS) (h3 : Cond.initialized "java/lang/Math" ∈ WS) (h4 : Cond.code Lib.Math.abs.name Lib.Math.abs.code 1 (some .int) ∈ WS) (hdd : 1 ≤ d) (hcat : (st.map fun v => v.category).sum ≤ 8) (hq : pc + 3 = q) (h : J X M d kc ks F q lv (.int (absI x) :: st) n σ) : J X M d kc ks F pc lv (.int x :: st) n σ := by
  intro p l e R s m args below meth c Ae ne D tc S A H locs cells slots ls C g1 g2 g3 g3' g4 g5 hP hD hS hL
  subst hq
  have hW := C.1.2.2.2.2
  have e1 := C.2.2.2.2.1
  have e2 := C.2.2.2.2.2.1
  exact va_mabs C.1.1 C.1.2.1 (C.1.2.2.1.trans hL.1.symm) C.1.2.2.2.1 (hW _ h1) (hW _ h2) (hW _ h3) (hW _ h4) (by omega) (by rw [cat_sum]; omega) (by omega) (by omega) hd (h p l e R s m args below meth c Ae ne D tc S A H locs cells slots ls C g1 g2 g3 g3' g4 g5 hP hD hS hL)
theorem J_mmaxL {idx : Nat} {x y : Int64} (hd : decode M.1 pc = .ok (.invokestatic idx, 3)) (h1 : Cond.methodLink M.2.1 idx Lib.MathLoose.max_long.x ∈ WS) (h2 : Cond.static Lib.MathLoose.max_long.x ∈ WS) (h3 : Cond.initialized "java/lang/Math" ∈ WS) (h4 : Cond.code Lib.MathLoose.max_long.x Lib.MathLoose.max_long.code 4 (some .long) ∈ WS) (hdd : 1 ≤ d) (hcat : (st.map fun v => v.category).sum ≤ 8) (hq : pc + 3 = q) (h : J X M d kc ks F q lv (.long (maxL x y) :: st) n σ) : J X M d kc ks F pc lv (.long y :: .long x :: st) n σ := by
  intro p l e R s m args below meth c Ae ne D tc S A H locs cells slots ls C g1 g2 g3 g3' g4 g5 hP hD hS hL
  subst hq
  have hW := C.1.2.2.2.2
  have e1 := C.2.2.2.2.1
  have e2 := C.2.2.2.2.2.1
  exact va_mmax_long C.1.1 C.1.2.1 (C.1.2.2.1.trans hL.1.symm) C.1.2.2.2.1 (hW _ h1) (hW _ h2) (hW _ h3) (hW _ h4) (by omega) (by rw [cat_sum]; omega) (by omega) (by omega) hd (h p l e R s m args below meth c Ae ne D tc S A H locs cells slots ls C g1 g2 g3 g3' g4 g5 hP hD hS hL)
theorem J_mminL {idx : Nat} {x y : Int64} (hd : decode M.1 pc = .ok (.invokestatic idx, 3)) (h1 : Cond.methodLink M.2.1 idx Lib.MathLoose.min_long.x ∈ WS) (h2 : Cond.static Lib.MathLoose.min_long.x ∈ WS) (h3 : Cond.initialized "java/lang/Math" ∈ WS) (h4 : Cond.code Lib.MathLoose.min_long.x Lib.MathLoose.min_long.code 4 (some .long) ∈ WS) (hdd : 1 ≤ d) (hcat : (st.map fun v => v.category).sum ≤ 8) (hq : pc + 3 = q) (h : J X M d kc ks F q lv (.long (minL x y) :: st) n σ) : J X M d kc ks F pc lv (.long y :: .long x :: st) n σ := by
  intro p l e R s m args below meth c Ae ne D tc S A H locs cells slots ls C g1 g2 g3 g3' g4 g5 hP hD hS hL
  subst hq
  have hW := C.1.2.2.2.2
  have e1 := C.2.2.2.2.1
  have e2 := C.2.2.2.2.2.1
  exact va_mmin_long C.1.1 C.1.2.1 (C.1.2.2.1.trans hL.1.symm) C.1.2.2.2.1 (hW _ h1) (hW _ h2) (hW _ h3) (hW _ h4) (by omega) (by rw [cat_sum]; omega) (by omega) (by omega) hd (h p l e R s m args below meth c Ae ne D tc S A H locs cells slots ls C g1 g2 g3 g3' g4 g5 hP hD hS hL)
/-- System.arraycopy of int rows of the memory -/
def CPL (own : String) (idx : Nat) : Prop := Cond.methodLink own idx arraycopyName ∈ WS ∧ Cond.native arraycopyName ∈ WS ∧ Cond.static arraycopyName ∈ WS ∧ Cond.initialized "java/lang/System" ∈ WS
theorem nfw_ac : nativeFrameWords "java/lang/System" "arraycopy" 5 ≤ 40 := by decide +kernel
theorem J_copy {idx a0 a : Nat} {sp dp k : Int32} (hd : decode M.1 pc = .ok (.invokestatic idx, 3)) (hl : CPL M.2.1 idx) (hr0 : RT n a0 200) (hr : RT n a 200) (ho : cpB sp dp k (ln a0) (ln a) = true) (hdd : 1 ≤ d) (hcat : (st.map fun v => v.category).sum ≤ 8) (hq : pc + 3 = q) (h : J X M d kc ks F q lv st n (sA σ a (va_cpy (gI σ a0) (gI σ a) sp.toNatClampNeg dp.toNatClampNeg k.toNatClampNeg))) : J X M d kc ks F pc lv (.int k :: .int dp :: .ref a :: .int sp :: .ref a0 :: st) n σ := by
  intro p l e R s m args below meth c Ae ne D tc S A H locs cells slots ls C g1 g2 g3 g3' g4 g5 hP hD hS hL
  subst hq
  have hW := C.1.2.2.2.2
  have e1 := C.2.2.2.2.1
  have e2 := C.2.2.2.2.2.1
  have nf := nfw_ac
  have hi := hr.2 (by omega)
  have he := ws_get (A := A) (tc := tc) (σ := σ) hi
  have he0 := ws_get (A := A) (tc := tc) (σ := σ) (hr0.2 (by omega))
  rw [cell_ints (t := 0) (RT_arr hr) (Or.inl rfl)] at he
  rw [cell_ints (t := 0) (RT_arr hr0) (Or.inl rfl)] at he0
  refine va_copyi C.1.1 C.1.2.1 (C.1.2.2.1.trans hL.1.symm) C.1.2.2.2.1 (hW _ hl.1) (hW _ hl.2.1) (hW _ hl.2.2.1) (hW _ hl.2.2.2) C.2.2.2.2.2.2.1 hP hD hS (cps a0) (cps a) 0 0 he0 he rfl rfl rfl (cpB_ok ho).1 (cpB_ok ho).2.1 (cpB_ok ho).2.2.1 (cpB_ok ho).2.2.2.1 (cpB_ok ho).2.2.2.2 (fun _ _ => rfl) (by omega) (by rw [cat_sum]; omega) hd (fun H1 locs1 hP1 hD1 hS1 => ?_)
  have hset : (wsOf A tc n σ).set (cps a) (A a, .inl (tc 0, ln a, .inl (va_cpy (fun k => gI σ a0 k) (fun k => gI σ a k) sp.toNatClampNeg dp.toNatClampNeg k.toNatClampNeg))) = wsOf A tc n (sA σ a (va_cpy (gI σ a0) (gI σ a) sp.toNatClampNeg dp.toNatClampNeg k.toNatClampNeg)) :=
    ws_setA hi (RT_arr hr) (Or.inl rfl) (fun k => by rw [gI_sA, if_pos rfl]) (fun b hb k => by rw [gI_sA, if_neg hb]) (fun _ _ => rfl) (fun _ _ => rfl)
  rw [hset] at hP1 hD1
  exact h p l e R s m args below meth c Ae ne D tc S A H1 locs1 cells slots ls C g1 g2 g3 g3' g4 g5 hP1 hD1 hS1 hL
/-! static rows -/
theorem RT_K {i : Nat} (h : RT n i 206) : 1000 ≤ i ∧ i < 1009 := by
  have h1 := h.1
  have key : ∀ l : List (Nat × Nat), ∀ P : Nat → Bool, ((List.range l.length).all fun k => decide ((l.getD k (99, 0)).1 = 7 → P k = true)) = true → ∀ k, (l.getD k (99, 0)).1 = 7 → P k = true := by
    intro l P hl k hk
    by_cases hkl : k < l.length
    · exact decide_eq_true_eq.mp (List.all_eq_true.mp hl k (List.mem_range.mpr hkl)) hk
    · rw [List.getD_eq_getElem?_getD, List.getElem?_eq_none (by omega)] at hk
      cases hk
  have h2 : (SH i).1 = 7 := by
    unfold SHk at h1
    split at h1
    · rename_i q; exact (SH_big q (by omega)).elim
    · omega
  unfold SH at h2
  split at h2
  · exact absurd (key SHl (fun _ => false) (by decide +kernel) i h2) (by decide)
  · have := key SHc (fun k => decide (k < 9)) (by decide +kernel) (i - 1000) h2
    have := decide_eq_true_eq.mp this
    omega
theorem J_gets {idx j : Nat} (hd : decode M.1 pc = .ok (.getstatic idx, 3)) (hj : j < 9) (hl : Cond.fieldLink M.2.1 idx "SnowBooks$Hall" (stN.getD j "") "[I" ∈ WS) (hq : pc + 3 = q) (h : J X M d kc ks F q lv (.ref (1000 + j) :: st) n σ) : J X M d kc ks F pc lv st n σ := by
  intro p l e R s m args below meth c Ae ne D tc S A H locs cells slots ls C h1 h2 h3 h3' h4 h5 hP hD hS hL
  subst hq
  have eA : A (1000 + j) = Ae (1000 + j) := h4.big h3' (by omega)
  refine va_gets C.1.1 C.1.2.1 (C.2.2.2.2.2.2.2.1.1 j hj).1 hS C.1.2.2.2.1 (C.1.2.2.2.2 _ hl) (fun _ hx => hx) hd ?_
  rw [← eA]
  exact h p l e R s m args below meth c Ae ne D tc S A H locs cells slots ls C h1 h2 h3 h3' h4 h5 hP hD hS hL
theorem J_ialdK {i : Nat} {j : Int32} (hd : decode M.1 pc = .ok (.iaload, 1)) (hr : RT n i 206) (hj : ixB j (ln i) = true) (hq : pc + 1 = q) (h : J X M d kc ks F q lv (.int (KI (i - 1000) j.toNatClampNeg) :: st) n σ) : J X M d kc ks F pc lv (.int j :: .ref i :: st) n σ := by
  intro p l e R s m args below meth c Ae ne D tc S A H locs cells slots ls C h1 h2 h3 h3' h4 h5 hP hD hS hL
  subst hq
  obtain ⟨k, rfl⟩ : ∃ k, i = 1000 + k := ⟨i - 1000, by have := RT_K hr; omega⟩
  have hk : k < 9 := by have := RT_K hr; omega
  have eA : A (1000 + k) = Ae (1000 + k) := h4.big h3' (by omega)
  have hT := (C.2.2.2.2.2.2.2.1.1 k hk).2
  rw [← eA] at hT
  refine va_ti C.1.1 C.1.2.1 hT hS (ixB_ok hj) rfl hd ?_
  have := h p l e R s m args below meth c Ae ne D tc S A H locs cells slots ls C h1 h2 h3 h3' h4 h5 hP hD hS hL
  rw [Nat.add_sub_cancel_left] at this
  exact this
theorem J_alenK {i : Nat} {x : Int32} (hd : decode M.1 pc = .ok (.arraylength, 1)) (hr : RT n i 206) (hx : nI (ln i) = x) (hq : pc + 1 = q) (h : J X M d kc ks F q lv (.int x :: st) n σ) : J X M d kc ks F pc lv (.ref i :: st) n σ := by
  intro p l e R s m args below meth c Ae ne D tc S A H locs cells slots ls C h1 h2 h3 h3' h4 h5 hP hD hS hL
  subst hq
  obtain ⟨k, rfl⟩ : ∃ k, i = 1000 + k := ⟨i - 1000, by have := RT_K hr; omega⟩
  have hk : k < 9 := by have := RT_K hr; omega
  have eA : A (1000 + k) = Ae (1000 + k) := h4.big h3' (by omega)
  have hT := (C.2.2.2.2.2.2.2.1.1 k hk).2
  rw [← eA] at hT
  exact va_tlen C.1.1 C.1.2.1 hT hS hx hd (h p l e R s m args below meth c Ae ne D tc S A H locs cells slots ls C h1 h2 h3 h3' h4 h5 hP hD hS hL)
/-- a copy out of a static row -/
theorem J_copyK {idx a0 a : Nat} {sp dp k : Int32} (hd : decode M.1 pc = .ok (.invokestatic idx, 3)) (hl : CPL M.2.1 idx) (hr0 : RT n a0 206) (hr : RT n a 200) (ho : cpB sp dp k (ln a0) (ln a) = true) (hdd : 1 ≤ d) (hcat : (st.map fun v => v.category).sum ≤ 8) (hq : pc + 3 = q) (h : J X M d kc ks F q lv st n (sA σ a (va_cpy (KI (a0 - 1000)) (gI σ a) sp.toNatClampNeg dp.toNatClampNeg k.toNatClampNeg))) : J X M d kc ks F pc lv (.int k :: .int dp :: .ref a :: .int sp :: .ref a0 :: st) n σ := by
  intro p l e R s m args below meth c Ae ne D tc S A H locs cells slots ls C g1 g2 g3 g3' g4 g5 hP hD hS hL
  subst hq
  have hW := C.1.2.2.2.2
  have e1 := C.2.2.2.2.1
  have e2 := C.2.2.2.2.2.1
  have nf := nfw_ac
  have hi := hr.2 (by omega)
  have he := ws_get (A := A) (tc := tc) (σ := σ) hi
  rw [cell_ints (t := 0) (RT_arr hr) (Or.inl rfl)] at he
  obtain ⟨z, rfl⟩ : ∃ z, a0 = 1000 + z := ⟨a0 - 1000, by have := RT_K hr0; omega⟩
  have hz : z < 9 := by have := RT_K hr0; omega
  have eA : A (1000 + z) = Ae (1000 + z) := g4.big g3' (by omega)
  have hT := (C.2.2.2.2.2.2.2.1.1 z hz).2
  rw [← eA] at hT
  rw [Nat.add_sub_cancel_left] at h
  obtain ⟨o1, o2, o3, o4, o5⟩ := cpB_ok ho
  obtain ⟨scr, s1, s2, s3, s4, -, s6, s7⟩ := hT
  have nn : ∀ w : Int32, ¬ w < 0 → w.toInt = (w.toNatClampNeg : Int) := by
    intro w hw
    have hw0 : (0 : Int) ≤ w.toInt := by
      have := Int32.not_lt.mp hw
      simpa using Int32.le_iff_toInt_le.mp this
    show w.toInt = ((w.toInt.toNat : Nat) : Int)
    omega
  have hl0 : A (1000 + z) < s.heap.size := (Array.getElem?_eq_some_iff.mp s1).1
  have c0 : H[A (1000 + z)]? = some scr := by rw [hS.2.1 _ hl0 s7]; exact s1
  have c1 : H[A a]? = some (vp_cell (tc 0) (ln a, .inl (fun k => gI σ a k))) := hP (cps a) _ he
  obtain ⟨u1, k0, u2, cm0, u3⟩ := s2
  obtain ⟨-, k1, u4, cm1, u5⟩ := (C.2.2.2.2.2.2.1.2 0 _ rfl).1 (ln a) (fun k => .int (gI σ a k))
  intro T hT X0
  obtain ⟨vm', X', step⟩ := X0.arraycopy C.1.1 C.1.2.2.2.1 (hW _ hl.1) (hW _ hl.2.1) (hW _ hl.2.2.1) (hW _ hl.2.2.2) (src := A (1000 + z)) (dst := A a) (cs := scr) (cd := vp_cell (tc 0) (ln a, .inl (fun k => gI σ a k))) (srcPos := sp) (destPos := dp) (n := k) (by rw [hT]; exact c0) (by rw [hT]; exact c1)
    u1 (fun _ w => by cases w) s3 (fun w => by cases w) u2 u4 u3 u5 (by simp [refKind]) o1 o2 o3
    (by rw [nn sp o1, nn k o3]; omega) (by rw [nn dp o2, nn k o3]; show ¬ _ > ((arrV (tc 0) (ln a) (fun k => .int (gI σ a k))).slots.size : Int); rw [arrV_size]; omega)
    (fun vm₁ _ i hi2 => by
      have e : scr.slots.getD (sp.toNatClampNeg + i) .null = .int (KI z (sp.toNatClampNeg + i)) := by
        rw [Array.getD_eq_getD_getElem?, s6 _ (by omega)]
        rfl
      rw [e]
      exact ⟨rfl, trivial⟩)
    (g := F0 m pc ls (.int k :: .int dp :: .ref (A a) :: .int sp :: .ref (A (1000 + z)) :: st.map (cv A))) rfl (by rw [C.1.2.2.1]; exact hL.1) (rest := st.map (cv A)) rfl (by rw [C.1.2.1]; exact hd) (by omega) (by rw [cat_sum]; show 2 * 0 + _ + _ ≤ _; omega)
  have ec : copied scr (vp_cell (tc 0) (ln a, .inl (fun k => gI σ a k))) sp dp k = vp_cell (tc 0) (ln a, .inl (va_cpy (KI z) (fun k => gI σ a k) sp.toNatClampNeg dp.toNatClampNeg k.toNatClampNeg)) := va_copiedX (fun w => .int w) scr (tc 0) (KI z) (fun k => gI σ a k) s6 o4
  rw [ec] at X' step
  have hla : A a < H.size := (Array.getElem?_eq_some_iff.mp c1).1
  have hh : ((T.setVm vm').setCell (A a) (vp_cell (tc 0) (ln a, .inl (va_cpy (KI z) (fun k => gI σ a k) sp.toNatClampNeg dp.toNatClampNeg k.toNatClampNeg)))).heap = H.setIfInBounds (A a) (vp_cell (tc 0) (ln a, .inl (va_cpy (KI z) (fun k => gI σ a k) sp.toNatClampNeg dp.toNatClampNeg k.toNatClampNeg))) := by rw [← hT]; rfl
  have oq : ∀ q : Nat, q ≠ A a → (H.setIfInBounds (A a) (vp_cell (tc 0) (ln a, .inl (va_cpy (KI z) (fun k => gI σ a k) sp.toNatClampNeg dp.toNatClampNeg k.toNatClampNeg))))[q]? = H[q]? := fun q hq => by simp [Array.getElem?_setIfInBounds, Ne.symm hq]
  have hset : (wsOf A tc n σ).set (cps a) (A a, .inl (tc 0, ln a, .inl (va_cpy (KI z) (fun k => gI σ a k) sp.toNatClampNeg dp.toNatClampNeg k.toNatClampNeg))) = wsOf A tc n (sA σ a (va_cpy (KI z) (gI σ a) sp.toNatClampNeg dp.toNatClampNeg k.toNatClampNeg)) :=
    ws_setA hi (RT_arr hr) (Or.inl rfl) (fun k => by rw [gI_sA, if_pos rfl]) (fun b hb k => by rw [gI_sA, if_neg hb]) (fun _ _ => rfl) (fun _ _ => rfl)
  have hat : va_at D vwCl (A a, .inl (tc 0, ln a, .inl (va_cpy (KI z) (fun k => gI σ a k) sp.toNatClampNeg dp.toNatClampNeg k.toNatClampNeg))) (H.setIfInBounds (A a) (vp_cell (tc 0) (ln a, .inl (va_cpy (KI z) (fun k => gI σ a k) sp.toNatClampNeg dp.toNatClampNeg k.toNatClampNeg)))) := by
    show (H.setIfInBounds (A a) _)[A a]? = some _
    simp [Array.getElem?_setIfInBounds, hla]
  have hP1 := hP.set hD he hat oq
  have hD1 := hD.set (e := .inl (tc 0, ln a, .inl (va_cpy (KI z) (fun k => gI σ a k) sp.toNatClampNeg dp.toNatClampNeg k.toNatClampNeg))) he
  rw [hset] at hP1 hD1
  obtain ⟨t, a1, b1⟩ := h p l e R s m args below meth c Ae ne D tc S A _ _ cells slots ls C g1 g2 g3 g3' g4 g5 hP1 hD1 ⟨by simp; exact hS.1, fun q g1 g2 => by
      rw [oq q (fun e => g2 (by rw [e]; exact hD.2 (cps a) _ he))]
      exact hS.2.1 q g1 g2, fun q hq => by
      rcases List.mem_append.mp hq with w | w
      · exact hS.2.2 q w
      · obtain ⟨y, -, hy⟩ := List.mem_map.mp w
        rw [← hy]
        exact hD.2 (cps a) _ he⟩ hL _ hh X'
  exact ⟨t, step t a1, b1⟩
theorem J_ldcS {idx j : Nat} {tx : String} (hd : decode M.1 pc = .ok (.ldc idx, 2)) (hj : (M.2.1, idx, tx, j) ∈ txKS) (hq : pc + 2 = q) (h : J X M d kc ks F q lv (.ref (1100 + 2 * j) :: st) n σ) : J X M d kc ks F pc lv st n σ := by
  intro p l e R s m args below meth c Ae ne D tc S A H locs cells slots ls C h1 h2 h3 h3' h4 h5 hP hD hS hL
  subst hq
  have eA : A (1100 + 2 * j) = Ae (1100 + 2 * j) := h4.big h3' (by omega)
  refine va_ldcS C.1.1 C.1.2.1 C.1.2.2.2.1 (C.2.2.2.2.2.2.2.1.2.2.1.2 _ hj) hd ?_
  rw [← eA]
  exact h p l e R s m args below meth c Ae ne D tc S A H locs cells slots ls C h1 h2 h3 h3' h4 h5 hP hD hS hL
end JMo
