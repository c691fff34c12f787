/-! texts: their fields, their bytes, their methods' calls -/
section TextM
variable {X : XS} {M M1 : JM} {d d1 kc ks kc1 ks1 kc2 ks2 : Nat} {F F1 : Nat × Option Value × Mm} {pc q : Nat} {lv : List (Nat × Value)} {st as : List Value} {n : Nat} {σ : Mm} {y : MethodName}
theorem J_ktv {idx j : Nat} (hd : decode M.1 pc = .ok (.getfield idx, 3)) (hj : j < 6) (hl : Cond.fieldLink M.2.1 idx "java/lang/String" "value" "[B" ∈ WS) (hq : pc + 3 = q) (h : J X M d kc ks F q lv (.ref (1101 + 2 * j) :: st) n σ) : J X M d kc ks F pc lv (.ref (1100 + 2 * j) :: st) n σ := by
  intro p l e R s m args below meth c Ae ne D tc S A H locs cells slots ls C h1 h2 h3 h3' h4 h5 hP hD hS hL
  subst hq
  have eA : A (1100 + 2 * j) = Ae (1100 + 2 * j) := h4.big h3' (by omega)
  have eB : A (1101 + 2 * j) = Ae (1101 + 2 * j) := h4.big h3' (by omega)
  have hT := (C.2.2.2.2.2.2.2.1.2.2.1.1.1 j hj).2.2.1
  dsimp only at hT
  rw [← eA, ← eB] at hT
  exact vk_getf C.1.1 C.1.2.1 hT hS C.1.2.2.2.1 (C.1.2.2.2.2 _ hl) (fun _ hx => hx) hd (h p l e R s m args below meth c Ae ne D tc S A H locs cells slots ls C h1 h2 h3 h3' h4 h5 hP hD hS hL)
theorem J_ktc {idx j : Nat} (hd : decode M.1 pc = .ok (.getfield idx, 3)) (hj : j < 6) (hl : Cond.fieldLink M.2.1 idx "java/lang/String" "coder" "B" ∈ WS) (hq : pc + 3 = q) (h : J X M d kc ks F q lv (.int 0 :: st) n σ) : J X M d kc ks F pc lv (.ref (1100 + 2 * j) :: st) n σ := by
  intro p l e R s m args below meth c Ae ne D tc S A H locs cells slots ls C h1 h2 h3 h3' h4 h5 hP hD hS hL
  subst hq
  have eA : A (1100 + 2 * j) = Ae (1100 + 2 * j) := h4.big h3' (by omega)
  have hT := (C.2.2.2.2.2.2.2.1.2.2.1.1.1 j hj).2.1
  dsimp only at hT
  rw [← eA] at hT
  exact vk_getf C.1.1 C.1.2.1 hT hS C.1.2.2.2.1 (C.1.2.2.2.2 _ hl) (fun _ hx => hx) hd (h p l e R s m args below meth c Ae ne D tc S A H locs cells slots ls C h1 h2 h3 h3' h4 h5 hP hD hS hL)
theorem J_ktlen {j : Nat} {x : Int32} (hd : decode M.1 pc = .ok (.arraylength, 1)) (hj : j < 6) (hx : nI (lenKS.getD j 0) = x) (hq : pc + 1 = q) (h : J X M d kc ks F q lv (.int x :: st) n σ) : J X M d kc ks F pc lv (.ref (1101 + 2 * j) :: st) n σ := by
  intro p l e R s m args below meth c Ae ne D tc S A H locs cells slots ls C h1 h2 h3 h3' h4 h5 hP hD hS hL
  subst hq
  have eB : A (1101 + 2 * j) = Ae (1101 + 2 * j) := h4.big h3' (by omega)
  have hT := (C.2.2.2.2.2.2.2.1.2.2.1.1.1 j hj).2.2.2
  dsimp only at hT
  rw [← eB] at hT
  exact va_tlen C.1.1 C.1.2.1 hT hS hx hd (h p l e R s m args below meth c Ae ne D tc S A H locs cells slots ls C h1 h2 h3 h3' h4 h5 hP hD hS hL)
theorem J_ktb {j : Nat} {k : Int32} (hd : decode M.1 pc = .ok (.baload, 1)) (hj : j < 6) (hk : ixB k (lenKS.getD j 0) = true) (hq : pc + 1 = q) (h : J X M d kc ks F q lv (.int ((bytKS.getD j []).getD k.toNatClampNeg 0) :: st) n σ) : J X M d kc ks F pc lv (.int k :: .ref (1101 + 2 * j) :: st) n σ := by
  intro p l e R s m args below meth c Ae ne D tc S A H locs cells slots ls C h1 h2 h3 h3' h4 h5 hP hD hS hL
  subst hq
  have eB : A (1101 + 2 * j) = Ae (1101 + 2 * j) := h4.big h3' (by omega)
  have hT := (C.2.2.2.2.2.2.2.1.2.2.1.1.1 j hj).2.2.2
  dsimp only at hT
  rw [← eB] at hT
  exact va_tb C.1.1 C.1.2.1 hT hS (ixB_ok hk) rfl hd (h p l e R s m args below meth c Ae ne D tc S A H locs cells slots ls C h1 h2 h3 h3' h4 h5 hP hD hS hL)
theorem J_kts {idx : Nat} (hd : decode M.1 pc = .ok (.getstatic idx, 3)) (hl : Cond.fieldLink M.2.1 idx "java/lang/String" "COMPACT_STRINGS" "Z" ∈ WS) (hq : pc + 3 = q) (h : J X M d kc ks F q lv (.int 1 :: st) n σ) : J X M d kc ks F pc lv st n σ := by
  intro p l e R s m args below meth c Ae ne D tc S A H locs cells slots ls C h1 h2 h3 h3' h4 h5 hP hD hS hL
  subst hq
  exact va_gets C.1.1 C.1.2.1 C.2.2.2.2.2.2.2.1.2.2.2.1 hS C.1.2.2.2.1 (C.1.2.2.2.2 _ hl) (fun _ hx => hx) hd (h p l e R s m args below meth c Ae ne D tc S A H locs cells slots ls C h1 h2 h3 h3' h4 h5 hP hD hS hL)
def MLt (own : String) (idx : Nat) (y : MethodName) (M1 : JM) (k : Nat) : Prop := MLk own idx y M1 k ∧ Cond.instanceMethod y ∈ WS ∧ Cond.selects y.cls y y ∈ WS ∧ y.cls = "java/lang/String"
/-- a method of a text -/
theorem J_callT {idx j : Nat} {st0 : List Value} (hd : decode M.1 pc = .ok (.invokevirtual idx, 3)) (ml : MLt M.2.1 idx y M1 as.length) (hj : j < 6) (hM : MT X y M1 d1 kc1 ks1 (.ref (1100 + 2 * j) :: as) n σ F1) (hst : as.reverse ++ .ref (1100 + 2 * j) :: st = st0) (hdd : d1 + 1 ≤ d) (hml : M1.2.2.1 ≤ 40) (hcat : (st.map fun v => v.category).sum ≤ 8) (hkc : kc1 + kc2 ≤ kc) (hks : ks1 + ks2 ≤ ks) (hnn : n ≤ F1.1) (hn9 : n ≤ 1000 → F1.1 ≤ 1000) (hv : F1.1 = n ∨ ∀ i, Value.ref i ∈ st ++ lv.map Prod.snd → cps i < n ∨ F1.1 ≤ cps i) (hq : pc + 3 = q)
    (h : okR M1.2.2.2.1 F1.2.1 → J X M d kc2 ks2 F q lv (F1.2.1.toList ++ st) F1.1 F1.2.2) : J X M d kc ks F pc lv st0 n σ := by
  intro p l e R s m args below meth c Ae ne D tc S A H locs cells slots ls C h1 h2 h3 h3' h4 h5 hP hD hS hL
  subst hst
  have hW := C.1.2.2.2.2
  obtain ⟨m0, m1, m2, m3⟩ := ml
  have hSS : ∀ q, va_A (wsOf A tc n σ) H.size q → S q := by
    intro q hq
    rcases hq with ⟨k, e, hk⟩ | hq
    · exact hD.2 k _ hk
    · exact C.2.2.2.2.2.2.2.2.1 q (Nat.le_trans hS.1 hq)
  have hrc := vk_recv C.2.2.2.2.2.2.2.1.2.2.1.1 hj hS
  have eA : A (1100 + 2 * j) = Ae (1100 + 2 * j) := h4.big h3' (by omega)
  rw [← eA, ← m3] at hrc
  refine J_after C h1 h2 h3 h3' h4 hD hS hL hkc hks hnn (hn9 h3') hv hq h (va_runV (As := as.map (cv A)) (b := A (1100 + 2 * j)) (n := as.length) (Ts := WS) (C := y.cls) C.1 (hM l C.2.2.2.2.2.2.2.2.2.2 A D tc H.size) ⟨callB_WS hW m0 hdd hml C.2.2.2.2.1 C.2.2.2.2.2.1, hW _ m1, hW _ m2⟩
    ⟨jP_blind, hrc, fun U hU hUW => ⟨rfl, by rw [hU], by rw [hU]; exact hP, va_K.moved hUW.alike C.2.2.2.2.2.2.1, hD.weaken (fun _ _ _ _ => trivial), by rw [hU]; exact jK.call (jK.agr (fun z hz => h4.big h3' (by omega)) C.2.2.2.2.2.2.2.1) hS hUW hSS, h5, h3'⟩⟩
    rfl (by simp) hL.1 (by simp [cv]) (lv_room (by rw [cat_sum]; exact hcat)) hd ⟨by omega, by omega⟩)
end TextM
/-! texts: the three methods of String that are called, walked over the constants -/
abbrev cPchk : ByteArray := prog_30_method_11_code
def yPchk : MethodName := ⟨"jdk/internal/util/Preconditions", "checkIndex", "(IILjava/util/function/BiFunction;)I"⟩
theorem dS_length_0 : decode cJ0_length_8abf5 0 = .ok (.aload_n 0, 1) := by decide +kernel
theorem dS_length_1 : decode cJ0_length_8abf5 1 = .ok (.getfield 9, 3) := by decide +kernel
theorem dS_length_4 : decode cJ0_length_8abf5 4 = .ok (.arraylength, 1) := by decide +kernel
theorem dS_length_5 : decode cJ0_length_8abf5 5 = .ok (.aload_n 0, 1) := by decide +kernel
theorem dS_length_6 : decode cJ0_length_8abf5 6 = .ok (.invokevirtual 335, 3) := by decide +kernel
theorem dS_length_9 : decode cJ0_length_8abf5 9 = .ok (.ishr, 1) := by decide +kernel
theorem dS_length_10 : decode cJ0_length_8abf5 10 = .ok (.ireturn, 1) := by decide +kernel
theorem dS_coder_0 : decode cJ0_coder_7d493 0 = .ok (.getstatic 38, 3) := by decide +kernel
theorem dS_coder_3 : decode cJ0_coder_7d493 3 = .ok (.ifCond .eq 10, 3) := by decide +kernel
theorem dS_coder_6 : decode cJ0_coder_7d493 6 = .ok (.aload_n 0, 1) := by decide +kernel
theorem dS_coder_7 : decode cJ0_coder_7d493 7 = .ok (.getfield 15, 3) := by decide +kernel
theorem dS_coder_10 : decode cJ0_coder_7d493 10 = .ok (.goto 4, 3) := by decide +kernel
theorem dS_coder_14 : decode cJ0_coder_7d493 14 = .ok (.ireturn, 1) := by decide +kernel
theorem dS_isLatin1_0 : decode cJ0_isLatin1_aae02 0 = .ok (.getstatic 38, 3) := by decide +kernel
theorem dS_isLatin1_3 : decode cJ0_isLatin1_aae02 3 = .ok (.ifCond .eq 14, 3) := by decide +kernel
theorem dS_isLatin1_6 : decode cJ0_isLatin1_aae02 6 = .ok (.aload_n 0, 1) := by decide +kernel
theorem dS_isLatin1_7 : decode cJ0_isLatin1_aae02 7 = .ok (.getfield 15, 3) := by decide +kernel
theorem dS_isLatin1_10 : decode cJ0_isLatin1_aae02 10 = .ok (.ifCond .ne 7, 3) := by decide +kernel
theorem dS_isLatin1_13 : decode cJ0_isLatin1_aae02 13 = .ok (.iconst 1, 1) := by decide +kernel
theorem dS_isLatin1_14 : decode cJ0_isLatin1_aae02 14 = .ok (.goto 4, 3) := by decide +kernel
theorem dS_isLatin1_18 : decode cJ0_isLatin1_aae02 18 = .ok (.ireturn, 1) := by decide +kernel
theorem dS_charAt_0 : decode cJ0_charAt_5068e 0 = .ok (.aload_n 0, 1) := by decide +kernel
theorem dS_charAt_1 : decode cJ0_charAt_5068e 1 = .ok (.invokevirtual 492, 3) := by decide +kernel
theorem dS_charAt_4 : decode cJ0_charAt_5068e 4 = .ok (.ifCond .eq 12, 3) := by decide +kernel
theorem dS_charAt_7 : decode cJ0_charAt_5068e 7 = .ok (.aload_n 0, 1) := by decide +kernel
theorem dS_charAt_8 : decode cJ0_charAt_5068e 8 = .ok (.getfield 9, 3) := by decide +kernel
theorem dS_charAt_11 : decode cJ0_charAt_5068e 11 = .ok (.iload_n 1, 1) := by decide +kernel
theorem dS_charAt_12 : decode cJ0_charAt_5068e 12 = .ok (.invokestatic 495, 3) := by decide +kernel
theorem dS_charAt_15 : decode cJ0_charAt_5068e 15 = .ok (.ireturn, 1) := by decide +kernel
theorem dS_checkIndex_0 : decode cJ0_checkIndex_df160 0 = .ok (.iload_n 0, 1) := by decide +kernel
theorem dS_checkIndex_1 : decode cJ0_checkIndex_df160 1 = .ok (.iload_n 1, 1) := by decide +kernel
theorem dS_checkIndex_2 : decode cJ0_checkIndex_df160 2 = .ok (.getstatic 1053, 3) := by decide +kernel
theorem dS_checkIndex_5 : decode cJ0_checkIndex_df160 5 = .ok (.invokestatic 1059, 3) := by decide +kernel
theorem dS_checkIndex_8 : decode cJ0_checkIndex_df160 8 = .ok (.pop, 1) := by decide +kernel
theorem dS_checkIndex_9 : decode cJ0_checkIndex_df160 9 = .ok (.return_, 1) := by decide +kernel
theorem dS_indexOf_0 : decode cJ0_indexOf_0f7a4 0 = .ok (.aload_n 0, 1) := by decide +kernel
theorem dS_indexOf_1 : decode cJ0_indexOf_0f7a4 1 = .ok (.iload_n 1, 1) := by decide +kernel
theorem dS_indexOf_2 : decode cJ0_indexOf_0f7a4 2 = .ok (.iconst 0, 1) := by decide +kernel
theorem dS_indexOf_3 : decode cJ0_indexOf_0f7a4 3 = .ok (.invokevirtual 633, 3) := by decide +kernel
theorem dS_indexOf_6 : decode cJ0_indexOf_0f7a4 6 = .ok (.ireturn, 1) := by decide +kernel
theorem dS_indexOf2_0 : decode cJ0_indexOf_7cf53 0 = .ok (.aload_n 0, 1) := by decide +kernel
theorem dS_indexOf2_1 : decode cJ0_indexOf_7cf53 1 = .ok (.invokevirtual 492, 3) := by decide +kernel
theorem dS_indexOf2_4 : decode cJ0_indexOf_7cf53 4 = .ok (.ifCond .eq 19, 3) := by decide +kernel
theorem dS_indexOf2_7 : decode cJ0_indexOf_7cf53 7 = .ok (.aload_n 0, 1) := by decide +kernel
theorem dS_indexOf2_8 : decode cJ0_indexOf_7cf53 8 = .ok (.getfield 9, 3) := by decide +kernel
theorem dS_indexOf2_11 : decode cJ0_indexOf_7cf53 11 = .ok (.iload_n 1, 1) := by decide +kernel
theorem dS_indexOf2_12 : decode cJ0_indexOf_7cf53 12 = .ok (.iload_n 2, 1) := by decide +kernel
theorem dS_indexOf2_13 : decode cJ0_indexOf_7cf53 13 = .ok (.aload_n 0, 1) := by decide +kernel
theorem dS_indexOf2_14 : decode cJ0_indexOf_7cf53 14 = .ok (.invokevirtual 505, 3) := by decide +kernel
theorem dS_indexOf2_17 : decode cJ0_indexOf_7cf53 17 = .ok (.invokestatic 637, 3) := by decide +kernel
theorem dS_indexOf2_20 : decode cJ0_indexOf_7cf53 20 = .ok (.goto 16, 3) := by decide +kernel
theorem dS_indexOf2_36 : decode cJ0_indexOf_7cf53 36 = .ok (.ireturn, 1) := by decide +kernel
theorem dL_charAt_0 : decode cJ1_charAt_3b067 0 = .ok (.iload_n 1, 1) := by decide +kernel
theorem dL_charAt_1 : decode cJ1_charAt_3b067 1 = .ok (.aload_n 0, 1) := by decide +kernel
theorem dL_charAt_2 : decode cJ1_charAt_3b067 2 = .ok (.arraylength, 1) := by decide +kernel
theorem dL_charAt_3 : decode cJ1_charAt_3b067 3 = .ok (.invokestatic 9, 3) := by decide +kernel
theorem dL_charAt_6 : decode cJ1_charAt_3b067 6 = .ok (.aload_n 0, 1) := by decide +kernel
theorem dL_charAt_7 : decode cJ1_charAt_3b067 7 = .ok (.iload_n 1, 1) := by decide +kernel
theorem dL_charAt_8 : decode cJ1_charAt_3b067 8 = .ok (.baload, 1) := by decide +kernel
theorem dL_charAt_9 : decode cJ1_charAt_3b067 9 = .ok (.sipush 255, 3) := by decide +kernel
theorem dL_charAt_12 : decode cJ1_charAt_3b067 12 = .ok (.iand, 1) := by decide +kernel
theorem dL_charAt_13 : decode cJ1_charAt_3b067 13 = .ok (.i2c, 1) := by decide +kernel
theorem dL_charAt_14 : decode cJ1_charAt_3b067 14 = .ok (.ireturn, 1) := by decide +kernel
theorem dL_canEncode_0 : decode cJ1_canEncode_9a6ad 0 = .ok (.iload_n 0, 1) := by decide +kernel
theorem dL_canEncode_1 : decode cJ1_canEncode_9a6ad 1 = .ok (.ifCond .lt 14, 3) := by decide +kernel
theorem dL_canEncode_4 : decode cJ1_canEncode_9a6ad 4 = .ok (.iload_n 0, 1) := by decide +kernel
theorem dL_canEncode_5 : decode cJ1_canEncode_9a6ad 5 = .ok (.sipush 255, 3) := by decide +kernel
theorem dL_canEncode_8 : decode cJ1_canEncode_9a6ad 8 = .ok (.if_icmp .gt 7, 3) := by decide +kernel
theorem dL_canEncode_11 : decode cJ1_canEncode_9a6ad 11 = .ok (.iconst 1, 1) := by decide +kernel
theorem dL_canEncode_12 : decode cJ1_canEncode_9a6ad 12 = .ok (.goto 4, 3) := by decide +kernel
theorem dL_canEncode_16 : decode cJ1_canEncode_9a6ad 16 = .ok (.ireturn, 1) := by decide +kernel
theorem dL_indexOf_0 : decode cJ1_indexOf_4cfef 0 = .ok (.iload_n 1, 1) := by decide +kernel
theorem dL_indexOf_1 : decode cJ1_indexOf_4cfef 1 = .ok (.invokestatic 88, 3) := by decide +kernel
theorem dL_indexOf_4 : decode cJ1_indexOf_4cfef 4 = .ok (.ifCond .ne 5, 3) := by decide +kernel
theorem dL_indexOf_9 : decode cJ1_indexOf_4cfef 9 = .ok (.iload_n 2, 1) := by decide +kernel
theorem dL_indexOf_10 : decode cJ1_indexOf_4cfef 10 = .ok (.iconst 0, 1) := by decide +kernel
theorem dL_indexOf_11 : decode cJ1_indexOf_4cfef 11 = .ok (.invokestatic 92, 3) := by decide +kernel
theorem dL_indexOf_14 : decode cJ1_indexOf_4cfef 14 = .ok (.istore_n 2, 1) := by decide +kernel
theorem dL_indexOf_15 : decode cJ1_indexOf_4cfef 15 = .ok (.iload_n 3, 1) := by decide +kernel
theorem dL_indexOf_16 : decode cJ1_indexOf_4cfef 16 = .ok (.aload_n 0, 1) := by decide +kernel
theorem dL_indexOf_17 : decode cJ1_indexOf_4cfef 17 = .ok (.arraylength, 1) := by decide +kernel
theorem dL_indexOf_18 : decode cJ1_indexOf_4cfef 18 = .ok (.invokestatic 38, 3) := by decide +kernel
theorem dL_indexOf_21 : decode cJ1_indexOf_4cfef 21 = .ok (.istore_n 3, 1) := by decide +kernel
theorem dL_indexOf_22 : decode cJ1_indexOf_4cfef 22 = .ok (.iload_n 2, 1) := by decide +kernel
theorem dL_indexOf_23 : decode cJ1_indexOf_4cfef 23 = .ok (.iload_n 3, 1) := by decide +kernel
theorem dL_indexOf_24 : decode cJ1_indexOf_4cfef 24 = .ok (.if_icmp .lt 5, 3) := by decide +kernel
theorem dL_indexOf_29 : decode cJ1_indexOf_4cfef 29 = .ok (.aload_n 0, 1) := by decide +kernel
theorem dL_indexOf_30 : decode cJ1_indexOf_4cfef 30 = .ok (.iload_n 1, 1) := by decide +kernel
theorem dL_indexOf_31 : decode cJ1_indexOf_4cfef 31 = .ok (.iload_n 2, 1) := by decide +kernel
theorem dL_indexOf_32 : decode cJ1_indexOf_4cfef 32 = .ok (.iload_n 3, 1) := by decide +kernel
theorem dL_indexOf_33 : decode cJ1_indexOf_4cfef 33 = .ok (.invokestatic 95, 3) := by decide +kernel
theorem dL_indexOf_36 : decode cJ1_indexOf_4cfef 36 = .ok (.ireturn, 1) := by decide +kernel
theorem dL_ixC_0 : decode cJ1_indexOfChar_4cfef 0 = .ok (.iload_n 1, 1) := by decide +kernel
theorem dL_ixC_1 : decode cJ1_indexOfChar_4cfef 1 = .ok (.i2b, 1) := by decide +kernel
theorem dL_ixC_2 : decode cJ1_indexOfChar_4cfef 2 = .ok (.istore 4, 2) := by decide +kernel
theorem dL_ixC_4 : decode cJ1_indexOfChar_4cfef 4 = .ok (.iload_n 2, 1) := by decide +kernel
theorem dL_ixC_5 : decode cJ1_indexOfChar_4cfef 5 = .ok (.istore 5, 2) := by decide +kernel
theorem dL_ixC_7 : decode cJ1_indexOfChar_4cfef 7 = .ok (.iload 5, 2) := by decide +kernel
theorem dL_ixC_9 : decode cJ1_indexOfChar_4cfef 9 = .ok (.iload_n 3, 1) := by decide +kernel
theorem dL_ixC_10 : decode cJ1_indexOfChar_4cfef 10 = .ok (.if_icmp .ge 21, 3) := by decide +kernel
theorem dL_ixC_13 : decode cJ1_indexOfChar_4cfef 13 = .ok (.aload_n 0, 1) := by decide +kernel
theorem dL_ixC_14 : decode cJ1_indexOfChar_4cfef 14 = .ok (.iload 5, 2) := by decide +kernel
theorem dL_ixC_16 : decode cJ1_indexOfChar_4cfef 16 = .ok (.baload, 1) := by decide +kernel
theorem dL_ixC_17 : decode cJ1_indexOfChar_4cfef 17 = .ok (.iload 4, 2) := by decide +kernel
theorem dL_ixC_19 : decode cJ1_indexOfChar_4cfef 19 = .ok (.if_icmp .ne 6, 3) := by decide +kernel
theorem dL_ixC_22 : decode cJ1_indexOfChar_4cfef 22 = .ok (.iload 5, 2) := by decide +kernel
theorem dL_ixC_24 : decode cJ1_indexOfChar_4cfef 24 = .ok (.ireturn, 1) := by decide +kernel
theorem dL_ixC_25 : decode cJ1_indexOfChar_4cfef 25 = .ok (.iinc 5 1, 3) := by decide +kernel
theorem dL_ixC_28 : decode cJ1_indexOfChar_4cfef 28 = .ok (.goto (-21), 3) := by decide +kernel
theorem dL_ixC_31 : decode cJ1_indexOfChar_4cfef 31 = .ok (.iconst (-1), 1) := by decide +kernel
theorem dL_ixC_32 : decode cJ1_indexOfChar_4cfef 32 = .ok (.ireturn, 1) := by decide +kernel
theorem dP_chk_0 : decode cPchk 0 = .ok (.iload_n 0, 1) := by decide +kernel
theorem dP_chk_1 : decode cPchk 1 = .ok (.ifCond .lt 8, 3) := by decide +kernel
theorem dP_chk_4 : decode cPchk 4 = .ok (.iload_n 0, 1) := by decide +kernel
theorem dP_chk_5 : decode cPchk 5 = .ok (.iload_n 1, 1) := by decide +kernel
theorem dP_chk_6 : decode cPchk 6 = .ok (.if_icmp .lt 10, 3) := by decide +kernel
theorem dP_chk_16 : decode cPchk 16 = .ok (.iload_n 0, 1) := by decide +kernel
theorem dP_chk_17 : decode cPchk 17 = .ok (.ireturn, 1) := by decide +kernel
abbrev mS_length : JM := (cJ0_length_8abf5, RJ0, 1, (some .int), false)
abbrev mS_coder : JM := (cJ0_coder_7d493, RJ0, 1, (some .byte), false)
abbrev mS_isLatin1 : JM := (cJ0_isLatin1_aae02, RJ0, 1, (some .boolean), false)
abbrev mS_charAt : JM := (cJ0_charAt_5068e, RJ0, 2, (some .char), false)
abbrev mS_checkIndex : JM := (cJ0_checkIndex_df160, RJ0, 2, none, false)
abbrev mS_indexOf : JM := (cJ0_indexOf_0f7a4, RJ0, 2, (some .int), false)
abbrev mS_indexOf2 : JM := (cJ0_indexOf_7cf53, RJ0, 3, (some .int), false)
abbrev mL_charAt : JM := (cJ1_charAt_3b067, RJ1, 2, (some .char), false)
abbrev mL_canEncode : JM := (cJ1_canEncode_9a6ad, RJ1, 1, (some .boolean), false)
abbrev mL_indexOf : JM := (cJ1_indexOf_4cfef, RJ1, 4, (some .int), false)
abbrev mL_ixC : JM := (cJ1_indexOfChar_4cfef, RJ1, 6, (some .int), false)
theorem qi_S : Cond.initialized RJ0 ∈ WS := WS_at 108 (by decide +kernel)
theorem qi_L : Cond.initialized RJ1 ∈ WS := WS_at 109 (by decide +kernel)
theorem qc_S_length : Cond.code yJ0_length_8abf5 cJ0_length_8abf5 1 (some .int) ∈ WS := WS_at 496 (by decide +kernel)
theorem qc_S_coder : Cond.code yJ0_coder_7d493 cJ0_coder_7d493 1 (some .byte) ∈ WS := WS_at 500 (by decide +kernel)
theorem qc_S_isLatin1 : Cond.code yJ0_isLatin1_aae02 cJ0_isLatin1_aae02 1 (some .boolean) ∈ WS := WS_at 519 (by decide +kernel)
theorem qc_S_charAt : Cond.code yJ0_charAt_5068e cJ0_charAt_5068e 2 (some .char) ∈ WS := WS_at 1571 (by decide +kernel)
theorem qc_S_checkIndex : Cond.code yJ0_checkIndex_df160 cJ0_checkIndex_df160 2 none ∈ WS := WS_at 1577 (by decide +kernel)
theorem qc_S_indexOf : Cond.code yJ0_indexOf_0f7a4 cJ0_indexOf_0f7a4 2 (some .int) ∈ WS := WS_at 511 (by decide +kernel)
theorem qc_S_indexOf2 : Cond.code yJ0_indexOf_7cf53 cJ0_indexOf_7cf53 3 (some .int) ∈ WS := WS_at 515 (by decide +kernel)
theorem qc_L_charAt : Cond.code yJ1_charAt_3b067 cJ1_charAt_3b067 2 (some .char) ∈ WS := WS_at 1574 (by decide +kernel)
theorem qc_L_canEncode : Cond.code yJ1_canEncode_9a6ad cJ1_canEncode_9a6ad 1 (some .boolean) ∈ WS := WS_at 526 (by decide +kernel)
theorem qc_L_indexOf : Cond.code yJ1_indexOf_4cfef cJ1_indexOf_4cfef 4 (some .int) ∈ WS := WS_at 523 (by decide +kernel)
theorem qc_L_ixC : Cond.code yJ1_indexOfChar_4cfef cJ1_indexOfChar_4cfef 6 (some .int) ∈ WS := WS_at 535 (by decide +kernel)
theorem qc_P_chk : Cond.code yPchk cPchk 3 (some .int) ∈ WS := WS_at 1580 (by decide +kernel)
theorem qi_P : Cond.initialized "jdk/internal/util/Preconditions" ∈ WS := WS_at 112 (by decide +kernel)
theorem ql_P : Cond.methodLink RJ0 1059 yPchk ∈ WS := WS_at 1578 (by decide +kernel)
theorem qs_P : Cond.static yPchk ∈ WS := WS_at 1579 (by decide +kernel)
theorem qf_P : Cond.fieldLink RJ0 1053 "jdk/internal/util/Preconditions" "SIOOBE_FORMATTER" "Ljava/util/function/BiFunction;" ∈ WS := WS_at 554 (by decide +kernel)
theorem qf_v : Cond.fieldLink RJ0 9 "java/lang/String" "value" "[B" ∈ WS := WS_at 2048 (by decide +kernel)
theorem qf_c : Cond.fieldLink RJ0 15 "java/lang/String" "coder" "B" ∈ WS := WS_at 2049 (by decide +kernel)
theorem qf_k : Cond.fieldLink RJ0 38 "java/lang/String" "COMPACT_STRINGS" "Z" ∈ WS := WS_at 501 (by decide +kernel)
theorem qm_max : Cond.methodLink RJ1 92 Lib.Math.max.name ∈ WS := WS_at 527 (by decide +kernel)
theorem qm_min : Cond.methodLink RJ1 38 Lib.Math.min.name ∈ WS := WS_at 530 (by decide +kernel)
theorem qt_S_length {own : String} {idx : Nat} (h : Cond.methodLink own idx yJ0_length_8abf5 ∈ WS) : MLt own idx yJ0_length_8abf5 mS_length 0 := ⟨⟨h, qi_S, qc_S_length, ⟨by decide +kernel, by decide +kernel⟩, by decide +kernel⟩, WS_at 494 (by decide +kernel), WS_at 495 (by decide +kernel), rfl⟩
theorem qt_S_coder {own : String} {idx : Nat} (h : Cond.methodLink own idx yJ0_coder_7d493 ∈ WS) : MLt own idx yJ0_coder_7d493 mS_coder 0 := ⟨⟨h, qi_S, qc_S_coder, ⟨by decide +kernel, by decide +kernel⟩, by decide +kernel⟩, WS_at 498 (by decide +kernel), WS_at 499 (by decide +kernel), rfl⟩
theorem qt_S_isLatin1 {own : String} {idx : Nat} (h : Cond.methodLink own idx yJ0_isLatin1_aae02 ∈ WS) : MLt own idx yJ0_isLatin1_aae02 mS_isLatin1 0 := ⟨⟨h, qi_S, qc_S_isLatin1, ⟨by decide +kernel, by decide +kernel⟩, by decide +kernel⟩, WS_at 517 (by decide +kernel), WS_at 518 (by decide +kernel), rfl⟩
theorem qt_S_charAt {own : String} {idx : Nat} (h : Cond.methodLink own idx yJ0_charAt_5068e ∈ WS) : MLt own idx yJ0_charAt_5068e mS_charAt 1 := ⟨⟨h, qi_S, qc_S_charAt, ⟨by decide +kernel, by decide +kernel⟩, by decide +kernel⟩, WS_at 1569 (by decide +kernel), WS_at 1570 (by decide +kernel), rfl⟩
theorem qt_S_indexOf {own : String} {idx : Nat} (h : Cond.methodLink own idx yJ0_indexOf_0f7a4 ∈ WS) : MLt own idx yJ0_indexOf_0f7a4 mS_indexOf 1 := ⟨⟨h, qi_S, qc_S_indexOf, ⟨by decide +kernel, by decide +kernel⟩, by decide +kernel⟩, WS_at 509 (by decide +kernel), WS_at 510 (by decide +kernel), rfl⟩
theorem qt_S_indexOf2 {own : String} {idx : Nat} (h : Cond.methodLink own idx yJ0_indexOf_7cf53 ∈ WS) : MLt own idx yJ0_indexOf_7cf53 mS_indexOf2 2 := ⟨⟨h, qi_S, qc_S_indexOf2, ⟨by decide +kernel, by decide +kernel⟩, by decide +kernel⟩, WS_at 513 (by decide +kernel), WS_at 514 (by decide +kernel), rfl⟩
theorem ql_S_coder : Cond.methodLink RJ0 335 yJ0_coder_7d493 ∈ WS := WS_at 497 (by decide +kernel)
theorem ql_S_indexOf2 : Cond.methodLink RJ0 633 yJ0_indexOf_7cf53 ∈ WS := WS_at 512 (by decide +kernel)
theorem ql_S_isLatin1 : Cond.methodLink RJ0 492 yJ0_isLatin1_aae02 ∈ WS := WS_at 516 (by decide +kernel)
theorem ql_S_length : Cond.methodLink RJ0 505 yJ0_length_8abf5 ∈ WS := WS_at 520 (by decide +kernel)
theorem qs_L_charAt : MLs RJ0 495 yJ1_charAt_3b067 mL_charAt 2 := ⟨⟨WS_at 1572 (by decide +kernel), qi_L, qc_L_charAt, ⟨by decide +kernel, by decide +kernel⟩, by decide +kernel⟩, WS_at 1573 (by decide +kernel)⟩
theorem qs_S_checkIndex : MLs RJ1 9 yJ0_checkIndex_df160 mS_checkIndex 2 := ⟨⟨WS_at 1575 (by decide +kernel), qi_S, qc_S_checkIndex, ⟨by decide +kernel, by decide +kernel⟩, by decide +kernel⟩, WS_at 1576 (by decide +kernel)⟩
theorem qs_L_canEncode : MLs RJ1 88 yJ1_canEncode_9a6ad mL_canEncode 1 := ⟨⟨WS_at 524 (by decide +kernel), qi_L, qc_L_canEncode, ⟨by decide +kernel, by decide +kernel⟩, by decide +kernel⟩, WS_at 525 (by decide +kernel)⟩
theorem qs_L_indexOf : MLs RJ0 637 yJ1_indexOf_4cfef mL_indexOf 4 := ⟨⟨WS_at 521 (by decide +kernel), qi_L, qc_L_indexOf, ⟨by decide +kernel, by decide +kernel⟩, by decide +kernel⟩, WS_at 522 (by decide +kernel)⟩
theorem qs_L_ixC : MLs RJ1 95 yJ1_indexOfChar_4cfef mL_ixC 4 := ⟨⟨WS_at 533 (by decide +kernel), qi_L, qc_L_ixC, ⟨by decide +kernel, by decide +kernel⟩, by decide +kernel⟩, WS_at 534 (by decide +kernel)⟩
theorem sc_len : ∀ j, j < 6 → nI (lenKS.getD j 0) = slen (1100 + 2 * j) ∧ lenKS.getD j 0 = slenN (1100 + 2 * j) ∧ (bytKS.getD j []).length = lenKS.getD j 0 ∧ shrI (nI (lenKS.getD j 0)) 0 = slen (1100 + 2 * j) ∧ 0 < lenKS.getD j 0 ∧ lenKS.getD j 0 ≤ 6 := by decide +kernel
theorem sc_at : ∀ j, j < 6 → ∀ k, k < 6 → (chI (((bytKS.getD j []).getD k 0) &&& 255) = sat (1100 + 2 * j) k ∨ lenKS.getD j 0 ≤ k) ∧ narrow .char (.int (chI (((bytKS.getD j []).getD k 0) &&& 255))) = .int (chI (((bytKS.getD j []).getD k 0) &&& 255)) := by decide +kernel
theorem sc_by : ∀ j, j < 6 → ∀ b ∈ bytKS.getD j [], ∀ m, m < 256 → ((b = byI (nI m)) ↔ b = nI m) := by decide +kernel
theorem RT_T {n i : Nat} (h : RT n i 207) : ∃ j, j < 6 ∧ i = 1100 + 2 * j := by
  have h1 := h.1
  have key : ∀ l : List (Nat × Nat), ∀ P : Nat → Bool, ((List.range l.length).all fun k => decide ((l.getD k (99, 0)).1 = 8 → P k = true)) = true → ∀ k, (l.getD k (99, 0)).1 = 8 → P k = true := by
    intro l P hl k hk
    by_cases hkl : k < l.length
    · exact decide_eq_true_eq.mp (List.all_eq_true.mp hl k (List.mem_range.mpr hkl)) hk
    · rw [List.getD_eq_getElem?_getD, List.getElem?_eq_none (by omega)] at hk
      cases hk
  have h2 : (SH i).1 = 8 := by
    unfold SHk at h1
    split at h1
    · rename_i q; exact (SH_big q (by omega)).elim
    · omega
  unfold SH at h2
  split at h2
  · exact absurd (key SHl (fun _ => false) (by decide +kernel) i h2) (by decide)
  · have h3 := key SHc (fun k => (k == 100) || (k == 102) || (k == 104) || (k == 106) || (k == 108) || (k == 110)) (by decide +kernel) (i - 1000) h2
    simp only [Bool.or_eq_true, beq_iff_eq] at h3
    refine ⟨(i - 1100) / 2, ?_, ?_⟩ <;> omega
section TextS
variable {X : XS} {n : Nat} {σ : Mm} {j : Nat}
theorem tS_coder (hj : j < 6) : MT X yJ0_coder_7d493 mS_coder 1 0 0 [.ref (1100 + 2 * j)] n σ (n, some (.int 0), σ) := by
  refine MT_of (by decide +kernel) rfl (fun h => by cases h) (Nat.le_of_ble_eq_true rfl) ?_
  show J X mS_coder 1 0 0 (n, some (.int 0), σ) 0 [(0, .ref (1100 + 2 * j))] [] n σ
  refine J_kts dS_coder_0 qf_k (q := 3) rfl ?_
  refine J_if_eq (tgt := 13) dS_coder_3 (by decide) (q := 6) rfl (fun c => absurd c (by decide)) (fun _ => ?_)
  refine J_aload_n (z := 0) dS_coder_6 rfl rfl (q := 7) rfl ?_
  refine J_ktc dS_coder_7 hj qf_c (q := 10) rfl ?_
  refine J_goto (tgt := 14) dS_coder_10 (by decide) ?_
  exact J_ireturn dS_coder_14 rfl (by decide) rfl
theorem tS_isLatin1 (hj : j < 6) : MT X yJ0_isLatin1_aae02 mS_isLatin1 1 0 0 [.ref (1100 + 2 * j)] n σ (n, some (.int 1), σ) := by
  refine MT_of (by decide +kernel) rfl (fun h => by cases h) (Nat.le_of_ble_eq_true rfl) ?_
  show J X mS_isLatin1 1 0 0 (n, some (.int 1), σ) 0 [(0, .ref (1100 + 2 * j))] [] n σ
  refine J_kts dS_isLatin1_0 qf_k (q := 3) rfl ?_
  refine J_if_eq (tgt := 17) dS_isLatin1_3 (by decide) (q := 6) rfl (fun c => absurd c (by decide)) (fun _ => ?_)
  refine J_aload_n (z := 0) dS_isLatin1_6 rfl rfl (q := 7) rfl ?_
  refine J_ktc dS_isLatin1_7 hj qf_c (q := 10) rfl ?_
  refine J_if_ne (tgt := 17) dS_isLatin1_10 (by decide) (q := 13) rfl (fun c => absurd rfl c) (fun _ => ?_)
  refine J_iconst (x := 1) dS_isLatin1_13 (by decide) (q := 14) rfl ?_
  refine J_goto (tgt := 18) dS_isLatin1_14 (by decide) ?_
  exact J_ireturn dS_isLatin1_18 rfl (by decide) rfl
theorem tS_length (hj : j < 6) : MT X yJ0_length_8abf5 mS_length 2 0 0 [.ref (1100 + 2 * j)] n σ (n, some (.int (slen (1100 + 2 * j))), σ) := by
  refine MT_of (by decide +kernel) rfl (fun h => by cases h) (Nat.le_of_ble_eq_true rfl) ?_
  show J X mS_length 2 0 0 (n, some (.int (slen (1100 + 2 * j))), σ) 0 [(0, .ref (1100 + 2 * j))] [] n σ
  refine J_aload_n (z := 0) dS_length_0 rfl rfl (q := 1) rfl ?_
  refine J_ktv dS_length_1 hj qf_v (q := 4) rfl ?_
  refine J_ktlen dS_length_4 hj rfl (q := 5) rfl ?_
  refine J_aload_n (z := 0) dS_length_5 rfl rfl (q := 6) rfl ?_
  refine J_callT (kc2 := 0) (ks2 := 0) (as := []) dS_length_6 (qt_S_coder ql_S_coder) hj (tS_coder hj) rfl (Nat.le_of_ble_eq_true rfl) (Nat.le_of_ble_eq_true rfl) (Nat.le_of_ble_eq_true rfl) (Nat.le_refl _) (Nat.le_refl _) (Nat.le_refl _) (fun h => h) (Or.inl rfl) (q := 9) rfl (fun _ => ?_)
  refine J_ishr dS_length_9 (q := 10) rfl ?_
  rw [(sc_len j hj).2.2.2.1]
  exact J_ireturn dS_length_10 rfl rfl rfl
/-- Preconditions.checkIndex, the index good -/
theorem M_chk (l : Launch) (H : Heap) (v : Value) (hvc : v = .null ∨ ∃ t, v = .ref t) {k : Int32} {L : Nat} (hk : ixB k L = true) (hL : L < 2 ^ 31) : Met l yPchk (.code yPchk cPchk 3 (some .int) :: []) { frames := 0, cells := 0, slots := 0, locals := 0 } (va_Pc [.int k, .int (nI L), v] (fun U => U.heap = H)) (va_Qi (fun r (_ : Unit) => r = k) (fun _ t => t.heap = H) (fun _ => False)) 0 0 (fun _ => False) := by
  obtain ⟨h0, h1⟩ := not_or.mp (ixB_ok hk)
  obtain ⟨m, hm, rfl⟩ := nI_of h0
  rw [nI_clamp hm] at h1
  refine Met.ofW (cc := cPchk) (maxL := 3) (ret := some .int) (by decide +kernel) rfl ?_
  intro p e s m9 args below meth c s₁ B hml hv
  obtain ⟨rfl, hH⟩ := hv
  have hx := B.exec
  have hb := B.bytes
  have hr := B.returns
  have hlocks := B.notSynchronized
  subst hH
  have hS : va_S (fun _ => False) s.heap s.heap [] := va_S.rf
  have hl := lv_entry ([.int (nI m), .int (nI L), v]) (n := 3) (by rcases hvc with rfl | ⟨t, rfl⟩ <;> exact Nat.le_of_ble_eq_true rfl)
  rw [lg_entry_eq]
  generalize (lg_sl ([.int (nI m), .int (nI L), v]) ++ List.replicate (3 - (lg_sl ([.int (nI m), .int (nI L), v])).length) Slot.unset).toArray = ls at hl ⊢
  have hl : lv_has ls 3 [(0, .int (nI m)), (1, .int (nI L)), (2, v)] := hl
  refine lv_iload_n hx hb dP_chk_0 rfl (lv_at hl 0 rfl) ?_
  refine lv_if_lt (tgt := 9) hx hb dP_chk_1 (by decide) (fun z => absurd z h0) (fun _ => ?_)
  refine lv_iload_n hx hb dP_chk_4 rfl (lv_at hl 0 rfl) ?_
  refine lv_iload_n hx hb dP_chk_5 rfl (lv_at hl 1 rfl) ?_
  refine lv_icmp_lt (tgt := 16) hx hb dP_chk_6 (by decide) (fun _ => ?_) (fun z => absurd (nI_lt (by omega) hL) z)
  refine lv_iload_n hx hb dP_chk_16 rfl (lv_at hl 0 rfl) ?_
  exact W.iret (v := nI m) hx hb hr (fun t ht hW => ⟨⟨nI m, (), rfl, rfl, ht⟩, hS.F ht⟩) hS.2.2 dP_chk_17
theorem J_chk {M : JM} {d kc ks : Nat} {F : Nat × Option Value × Mm} {pc q : Nat} {lv : List (Nat × Value)} {st : List Value} {k : Int32} {L : Nat} (hd2 : decode M.1 pc = .ok (.getstatic 1053, 3)) (hown : M.2.1 = RJ0) (hd5 : decode M.1 (pc + 3) = .ok (.invokestatic 1059, 3)) (hd8 : decode M.1 (pc + 6) = .ok (.pop, 1)) (hk : ixB k L = true) (hLL : L < 2 ^ 31) (hdd : 1 ≤ d) (hcat : (st.map fun v => v.category).sum ≤ 8) (hq : pc + 7 = q) (h : J X M d kc ks F q lv st n σ) : J X M d kc ks F pc lv (.int (nI L) :: .int k :: st) n σ := by
  intro p l e R s m args below meth c Ae ne D tc S A H locs cells slots ls C h1 h2 h3 h3' h4 h5 hP hD hS hL
  subst hq
  have hW := C.1.2.2.2.2
  have e1 := C.2.2.2.2.1
  have e2 := C.2.2.2.2.2.1
  have key : ∀ v : Value, (v = .null ∨ ∃ t, v = .ref t) → va_Z "jdk/internal/util/Preconditions" "SIOOBE_FORMATTER" "Ljava/util/function/BiFunction;" v S s s.heap → W p l e R s m args below meth c H locs cells slots (MQ below (jQ M.2.2.2.1 Ae ne D tc S F.1 F.2.1 F.2.2) args s R.cells R.slots S) (F0 m pc ls ((Value.int (nI L) :: .int k :: st).map (cv A))) := by
    intro v hvc hZ
    refine va_gets C.1.1 C.1.2.1 hZ hS C.1.2.2.2.1 (by rw [hown]; exact hW _ qf_P) (fun _ hx => hx) hd2 ?_
    refine va_calli (va_runS (As := [.int k, .int (nI L), v]) (n := 3) (Ts := WS) (rest := st.map (cv A)) C.1 (M_chk l H v hvc hk hLL) ⟨⟨rfl, rfl, by show 0 + 1 ≤ _; omega, by show 8 + (3 + 11) + 0 ≤ _; omega, fun w hw a' U hU => by rw [List.mem_singleton.mp hw]; exact word_at hU (WS_good qc_P_chk) (hW _ qc_P_chk), List.mem_cons_self, hW _ qc_P_chk, hW _ qi_P, ⟨by decide +kernel, by decide +kernel⟩, fun sig hs => ?_, by rw [hown]; exact hW _ ql_P⟩, hW _ qs_P⟩
      ⟨fun a U g mk q => by obtain ⟨q0, q1⟩ := q; exact ⟨q0, q1⟩, fun U hU hUW => ⟨rfl, hU⟩⟩ rfl rfl hL.1 rfl (lv_room (by rw [cat_sum]; exact hcat)) hd5 ⟨by omega, by omega⟩) hS (fun q _ z => z.elim) (fun q z => z.elim) (fun r u t H1 locs1 ht hvm hr hB hz hk1 hS1 => ?_)
    · have h3 : (parseMethodDescriptor yPchk.desc).map (fun d => d.parameters.length) = some 3 := by decide +kernel
      rw [hs] at h3
      exact (Option.some.inj h3).symm
    · have eH : H1 = H := ht.symm.trans hB
      subst eH
      refine lv_pop C.1.1 C.1.2.1 hd8 rfl ?_
      exact h p l e R s m args below meth c Ae ne D tc S A H1 locs1 cells slots ls C h1 h2 h3 h3' h4 h5 hP hD hS1 hL
  rcases C.2.2.2.2.2.2.2.1.2.2.2.2.1 with hZ | ⟨t, hZ⟩
  · exact key .null (Or.inl rfl) hZ
  · exact key (.ref t) (Or.inr ⟨t, rfl⟩) hZ
theorem tS_checkIndex {k : Int32} {L : Nat} (hk : ixB k L = true) (hL : L < 2 ^ 31) : MT X yJ0_checkIndex_df160 mS_checkIndex 1 0 0 [.int k, .int (nI L)] n σ (n, none, σ) := by
  refine MT_of (by decide +kernel) rfl (fun h => by cases h) (Nat.le_of_ble_eq_true rfl) ?_
  show J X mS_checkIndex 1 0 0 (n, none, σ) 0 [(0, .int k), (1, .int (nI L))] [] n σ
  refine J_iload_n (z := 0) dS_checkIndex_0 rfl rfl (q := 1) rfl ?_
  refine J_iload_n (z := 1) dS_checkIndex_1 rfl rfl (q := 2) rfl ?_
  refine J_chk dS_checkIndex_2 rfl dS_checkIndex_5 dS_checkIndex_8 hk hL (Nat.le_of_ble_eq_true rfl) (Nat.le_of_ble_eq_true rfl) (q := 9) rfl ?_
  exact J_return dS_checkIndex_9 rfl rfl
theorem tL_charAt (hj : j < 6) {k : Int32} (hk : ixB k (lenKS.getD j 0) = true) : MT X yJ1_charAt_3b067 mL_charAt 2 0 0 [.ref (1101 + 2 * j), .int k] n σ (n, some (.int (sat (1100 + 2 * j) k.toNatClampNeg)), σ) := by
  refine MT_of (by decide +kernel) rfl (fun h => by cases h) (Nat.le_of_ble_eq_true rfl) ?_
  show J X mL_charAt 2 0 0 (n, some (.int (sat (1100 + 2 * j) k.toNatClampNeg)), σ) 0 [(0, .ref (1101 + 2 * j)), (1, .int k)] [] n σ
  have h6 := (sc_len j hj).2.2.2.2.2
  refine J_iload_n (z := 1) dL_charAt_0 rfl rfl (q := 1) rfl ?_
  refine J_aload_n (z := 0) dL_charAt_1 rfl rfl (q := 2) rfl ?_
  refine J_ktlen dL_charAt_2 hj rfl (q := 3) rfl ?_
  refine J_cSv (as := [.int k, .int (nI (lenKS.getD j 0))]) dL_charAt_3 qs_S_checkIndex (tS_checkIndex hk (by omega)) rfl (Nat.le_of_ble_eq_true rfl) (Nat.le_of_ble_eq_true rfl) (Nat.le_of_ble_eq_true rfl) (q := 6) rfl ?_
  refine J_aload_n (z := 0) dL_charAt_6 rfl rfl (q := 7) rfl ?_
  refine J_iload_n (z := 1) dL_charAt_7 rfl rfl (q := 8) rfl ?_
  refine J_ktb dL_charAt_8 hj hk (q := 9) rfl ?_
  refine J_sipush (x := 255) dL_charAt_9 (by decide) (q := 12) rfl ?_
  refine J_iand dL_charAt_12 (q := 13) rfl ?_
  refine J_i2c dL_charAt_13 (q := 14) rfl ?_
  have h2 : ¬ (lenKS.getD j 0 ≤ k.toNatClampNeg) := (not_or.mp (ixB_ok hk)).2
  obtain ⟨s1, s2⟩ := sc_at j hj k.toNatClampNeg (by omega)
  rw [s1.resolve_right h2] at s2 ⊢
  exact J_ireturn dL_charAt_14 rfl s2 rfl
theorem tS_charAt (hj : j < 6) {k : Int32} (hk : ixB k (lenKS.getD j 0) = true) : MT X yJ0_charAt_5068e mS_charAt 3 0 0 [.ref (1100 + 2 * j), .int k] n σ (n, some (.int (sat (1100 + 2 * j) k.toNatClampNeg)), σ) := by
  refine MT_of (by decide +kernel) rfl (fun h => by cases h) (Nat.le_of_ble_eq_true rfl) ?_
  show J X mS_charAt 3 0 0 (n, some (.int (sat (1100 + 2 * j) k.toNatClampNeg)), σ) 0 [(0, .ref (1100 + 2 * j)), (1, .int k)] [] n σ
  have h6 := (sc_len j hj).2.2.2.2.2
  have h2 : ¬ (lenKS.getD j 0 ≤ k.toNatClampNeg) := (not_or.mp (ixB_ok hk)).2
  obtain ⟨s1, s2⟩ := sc_at j hj k.toNatClampNeg (by omega)
  rw [s1.resolve_right h2] at s2
  refine J_aload_n (z := 0) dS_charAt_0 rfl rfl (q := 1) rfl ?_
  refine J_callT (kc2 := 0) (ks2 := 0) (as := []) dS_charAt_1 (qt_S_isLatin1 ql_S_isLatin1) hj (tS_isLatin1 hj) rfl (Nat.le_of_ble_eq_true rfl) (Nat.le_of_ble_eq_true rfl) (Nat.le_of_ble_eq_true rfl) (Nat.le_refl _) (Nat.le_refl _) (Nat.le_refl _) (fun h => h) (Or.inl rfl) (q := 4) rfl (fun _ => ?_)
  refine J_if_eq (tgt := 16) dS_charAt_4 (by decide) (q := 7) rfl (fun c => absurd c (by decide)) (fun _ => ?_)
  refine J_aload_n (z := 0) dS_charAt_7 rfl rfl (q := 8) rfl ?_
  refine J_ktv dS_charAt_8 hj qf_v (q := 11) rfl ?_
  refine J_iload_n (z := 1) dS_charAt_11 rfl rfl (q := 12) rfl ?_
  refine J_cSi (as := [.ref (1101 + 2 * j), .int k]) dS_charAt_12 qs_L_charAt (tL_charAt hj hk) rfl (Nat.le_of_ble_eq_true rfl) (Nat.le_of_ble_eq_true rfl) (Nat.le_of_ble_eq_true rfl) (q := 15) rfl (fun _ => ?_)
  exact J_ireturn dS_charAt_15 rfl s2 rfl
theorem tL_canEncode {x : Int32} (hx : chB x = true) : MT X yJ1_canEncode_9a6ad mL_canEncode 1 0 0 [.int x] n σ (n, some (.int 1), σ) := by
  refine MT_of (by decide +kernel) rfl (fun h => by cases h) (Nat.le_of_ble_eq_true rfl) ?_
  show J X mL_canEncode 1 0 0 (n, some (.int 1), σ) 0 [(0, .int x)] [] n σ
  obtain ⟨x0, x1⟩ := chB_ok hx
  obtain ⟨m, hm, rfl⟩ := nI_of (x := x) (fun z => Int32.lt_irrefl (Int32.lt_of_lt_of_le z x0))
  have hm2 : m < 256 := (nI_ltI hm (by omega)).mp (show nI m < nI 256 from x1)
  refine J_iload_n (z := 0) dL_canEncode_0 rfl rfl (q := 1) rfl ?_
  refine J_if_lt (tgt := 15) dL_canEncode_1 (by decide) (q := 4) rfl (fun z => absurd z (nI_pos hm)) (fun _ => ?_)
  refine J_iload_n (z := 0) dL_canEncode_4 rfl rfl (q := 5) rfl ?_
  refine J_sipush (x := nI 255) dL_canEncode_5 (by decide) (q := 8) rfl ?_
  refine J_icmp_gt (tgt := 15) dL_canEncode_8 (by decide) (q := 11) rfl (fun z => absurd z (nI_nlt (by omega) (by omega))) (fun _ => ?_)
  refine J_iconst (x := 1) dL_canEncode_11 (by decide) (q := 12) rfl ?_
  refine J_goto (tgt := 16) dL_canEncode_12 (by decide) ?_
  exact J_ireturn dL_canEncode_16 rfl (by decide) rfl
theorem sc_drop {b : Int32} {l L : List Int32} {k : Nat} (e : L.drop k = b :: l) : L.drop (k + 1) = l ∧ L.getD k 0 = b ∧ k < L.length ∧ b ∈ L := by
  have h1 : k < L.length := by
    rcases Nat.lt_or_ge k L.length with h | h
    · exact h
    · rw [List.drop_eq_nil_of_le h] at e; cases e
  rw [List.drop_eq_getElem_cons h1] at e
  injection e with e1 e2
  refine ⟨e2, ?_, h1, ?_⟩
  · rw [List.getD_eq_getElem?_getD, List.getElem?_eq_getElem h1]; exact e1
  · rw [← e1]; exact List.getElem_mem h1
theorem tL_ixLoop (hj : j < 6) {m : Nat} (hm : m < 256) {F : Nat × Option Value × Mm} : ∀ (l : List Int32) (k : Nat), k ≤ lenKS.getD j 0 → (bytKS.getD j []).drop k = l → F = (n, some (.int (sixF (nI m) l k)), σ) → J X mL_ixC 1 0 0 F 7 [(5, .int (nI k)), (4, .int (byI (nI m))), (0, .ref (1101 + 2 * j)), (1, .int (nI m)), (2, .int 0), (3, .int (nI (lenKS.getD j 0)))] [] n σ := by
  obtain ⟨-, -, hl, -, -, h6⟩ := sc_len j hj
  intro l
  induction l with
  | nil =>
    intro k hk e hF
    have q : (bytKS.getD j []).length ≤ k := List.drop_eq_nil_iff.mp e
    refine J_iload (z := 0) dL_ixC_7 rfl (q := 9) rfl ?_
    refine J_iload_n (z := 5) dL_ixC_9 rfl rfl (q := 10) rfl ?_
    refine J_icmp_ge (tgt := 31) dL_ixC_10 (by decide) (q := 13) rfl (fun _ => ?_) (fun z => absurd (nI_le (by omega) (by omega)) z)
    refine J_iconst (x := -1) dL_ixC_31 (by decide) (q := 32) rfl ?_
    exact J_ireturn dL_ixC_32 rfl rfl hF
  | cons b l ih =>
    intro k hk e hF
    obtain ⟨g1, g2, g3, g4⟩ := sc_drop e
    have hkl : k < lenKS.getD j 0 := by omega
    refine J_iload (z := 0) dL_ixC_7 rfl (q := 9) rfl ?_
    refine J_iload_n (z := 5) dL_ixC_9 rfl rfl (q := 10) rfl ?_
    refine J_icmp_ge (tgt := 31) dL_ixC_10 (by decide) (q := 13) rfl (fun z => absurd z (nI_ge hkl (by omega))) (fun _ => ?_)
    refine J_aload_n (z := 2) dL_ixC_13 rfl rfl (q := 14) rfl ?_
    refine J_iload (z := 0) dL_ixC_14 rfl (q := 16) rfl ?_
    refine J_ktb dL_ixC_16 hj (decide_eq_true (nI_in hkl (by omega))) (q := 17) rfl ?_
    refine J_iload (z := 1) dL_ixC_17 rfl (q := 19) rfl ?_
    rw [nI_clamp (by omega), g2]
    rw [sixF] at hF
    refine J_icmp_ne (tgt := 25) dL_ixC_19 (by decide) (q := 22) rfl (fun z => ?_) (fun z => ?_)
    · rw [if_neg (fun w => z ((sc_by j hj b g4 m hm).mpr w))] at hF
      refine J_iinc (z := 0) (y := nI (k + 1)) (lv' := [(5, .int (nI (k + 1))), (4, .int (byI (nI m))), (0, .ref (1101 + 2 * j)), (1, .int (nI m)), (2, .int 0), (3, .int (nI (lenKS.getD j 0)))]) dL_ixC_25 rfl (nI_succ k).symm (by decide) rfl (q := 28) rfl ?_
      refine J_goto (tgt := 7) dL_ixC_28 (by decide) ?_
      exact ih (k + 1) hkl g1 hF
    · rw [if_pos ((sc_by j hj b g4 m hm).mp z)] at hF
      refine J_iload (z := 0) dL_ixC_22 rfl (q := 24) rfl ?_
      exact J_ireturn dL_ixC_24 rfl rfl hF
theorem tL_ixC (hj : j < 6) {m : Nat} (hm : m < 256) : MT X yJ1_indexOfChar_4cfef mL_ixC 1 0 0 [.ref (1101 + 2 * j), .int (nI m), .int 0, .int (nI (lenKS.getD j 0))] n σ (n, some (.int (sixF (nI m) (bytKS.getD j []) 0)), σ) := by
  refine MT_of (by decide +kernel) rfl (fun h => by cases h) (Nat.le_of_ble_eq_true rfl) ?_
  show J X mL_ixC 1 0 0 (n, some (.int (sixF (nI m) (bytKS.getD j []) 0)), σ) 0 [(0, .ref (1101 + 2 * j)), (1, .int (nI m)), (2, .int 0), (3, .int (nI (lenKS.getD j 0)))] [] n σ
  refine J_iload_n (z := 1) dL_ixC_0 rfl rfl (q := 1) rfl ?_
  refine J_i2b dL_ixC_1 (q := 2) rfl ?_
  refine J_istore (lv' := [(4, .int (byI (nI m))), (0, .ref (1101 + 2 * j)), (1, .int (nI m)), (2, .int 0), (3, .int (nI (lenKS.getD j 0)))]) dL_ixC_2 (by decide) rfl (q := 4) rfl ?_
  refine J_iload_n (z := 3) dL_ixC_4 rfl rfl (q := 5) rfl ?_
  refine J_istore (lv' := [(5, .int 0), (4, .int (byI (nI m))), (0, .ref (1101 + 2 * j)), (1, .int (nI m)), (2, .int 0), (3, .int (nI (lenKS.getD j 0)))]) dL_ixC_5 (by decide) rfl (q := 7) rfl ?_
  exact tL_ixLoop hj hm _ 0 (Nat.zero_le _) rfl rfl
theorem tL_indexOf (hj : j < 6) {m : Nat} (hm : m < 256) : MT X yJ1_indexOf_4cfef mL_indexOf 2 0 0 [.ref (1101 + 2 * j), .int (nI m), .int 0, .int (nI (lenKS.getD j 0))] n σ (n, some (.int (sixF (nI m) (bytKS.getD j []) 0)), σ) := by
  refine MT_of (by decide +kernel) rfl (fun h => by cases h) (Nat.le_of_ble_eq_true rfl) ?_
  show J X mL_indexOf 2 0 0 (n, some (.int (sixF (nI m) (bytKS.getD j []) 0)), σ) 0 [(0, .ref (1101 + 2 * j)), (1, .int (nI m)), (2, .int 0), (3, .int (nI (lenKS.getD j 0)))] [] n σ
  obtain ⟨-, -, hl, -, h5, h6⟩ := sc_len j hj
  have hch : chB (nI m) = true := decide_eq_true ⟨nI_pos' (by omega), show nI m < nI 256 from nI_lt (by omega) (by omega)⟩
  refine J_iload_n (z := 1) dL_indexOf_0 rfl rfl (q := 1) rfl ?_
  refine J_cSi (as := [.int (nI m)]) dL_indexOf_1 qs_L_canEncode (tL_canEncode hch) rfl (Nat.le_of_ble_eq_true rfl) (Nat.le_of_ble_eq_true rfl) (Nat.le_of_ble_eq_true rfl) (q := 4) rfl (fun _ => ?_)
  refine J_if_ne (tgt := 9) dL_indexOf_4 (by decide) (q := 7) rfl (fun _ => ?_) (fun c => absurd c (by decide))
  refine J_iload_n (z := 2) dL_indexOf_9 rfl rfl (q := 10) rfl ?_
  refine J_iconst (x := 0) dL_indexOf_10 (by decide) (q := 11) rfl ?_
  refine J_mmax dL_indexOf_11 qm_max q_static_mmax q_init_math q_code_mmax (Nat.le_of_ble_eq_true rfl) (Nat.le_of_ble_eq_true rfl) (q := 14) rfl ?_
  rw [show maxI 0 0 = 0 by decide]
  refine J_istore_n (lv' := [(2, .int 0), (0, .ref (1101 + 2 * j)), (1, .int (nI m)), (3, .int (nI (lenKS.getD j 0)))]) dL_indexOf_14 rfl (by decide) rfl (q := 15) rfl ?_
  refine J_iload_n (z := 3) dL_indexOf_15 rfl rfl (q := 16) rfl ?_
  refine J_aload_n (z := 1) dL_indexOf_16 rfl rfl (q := 17) rfl ?_
  refine J_ktlen dL_indexOf_17 hj rfl (q := 18) rfl ?_
  refine J_mmin dL_indexOf_18 qm_min q_static_mmin q_init_math q_code_mmin (Nat.le_of_ble_eq_true rfl) (Nat.le_of_ble_eq_true rfl) (q := 21) rfl ?_
  rw [show minI (nI (lenKS.getD j 0)) (nI (lenKS.getD j 0)) = nI (lenKS.getD j 0) by unfold minI; split <;> rfl]
  refine J_istore_n (lv' := [(3, .int (nI (lenKS.getD j 0))), (2, .int 0), (0, .ref (1101 + 2 * j)), (1, .int (nI m))]) dL_indexOf_21 rfl (by decide) rfl (q := 22) rfl ?_
  refine J_iload_n (z := 1) dL_indexOf_22 rfl rfl (q := 23) rfl ?_
  refine J_iload_n (z := 0) dL_indexOf_23 rfl rfl (q := 24) rfl ?_
  refine J_icmp_lt (tgt := 29) dL_indexOf_24 (by decide) (q := 27) rfl (fun _ => ?_) (fun z => absurd (show nI 0 < nI (lenKS.getD j 0) from nI_lt (by omega) (by omega)) z)
  refine J_aload_n (z := 2) dL_indexOf_29 rfl rfl (q := 30) rfl ?_
  refine J_iload_n (z := 3) dL_indexOf_30 rfl rfl (q := 31) rfl ?_
  refine J_iload_n (z := 1) dL_indexOf_31 rfl rfl (q := 32) rfl ?_
  refine J_iload_n (z := 0) dL_indexOf_32 rfl rfl (q := 33) rfl ?_
  refine J_cSi (as := [.ref (1101 + 2 * j), .int (nI m), .int 0, .int (nI (lenKS.getD j 0))]) dL_indexOf_33 qs_L_ixC (tL_ixC hj hm) rfl (Nat.le_of_ble_eq_true rfl) (Nat.le_of_ble_eq_true rfl) (Nat.le_of_ble_eq_true rfl) (q := 36) rfl (fun _ => ?_)
  exact J_ireturn dL_indexOf_36 rfl rfl rfl
theorem tS_indexOf2 (hj : j < 6) {m : Nat} (hm : m < 256) : MT X yJ0_indexOf_7cf53 mS_indexOf2 3 0 0 [.ref (1100 + 2 * j), .int (nI m), .int 0] n σ (n, some (.int (sixF (nI m) (bytKS.getD j []) 0)), σ) := by
  refine MT_of (by decide +kernel) rfl (fun h => by cases h) (Nat.le_of_ble_eq_true rfl) ?_
  show J X mS_indexOf2 3 0 0 (n, some (.int (sixF (nI m) (bytKS.getD j []) 0)), σ) 0 [(0, .ref (1100 + 2 * j)), (1, .int (nI m)), (2, .int 0)] [] n σ
  refine J_aload_n (z := 0) dS_indexOf2_0 rfl rfl (q := 1) rfl ?_
  refine J_callT (kc2 := 0) (ks2 := 0) (as := []) dS_indexOf2_1 (qt_S_isLatin1 ql_S_isLatin1) hj (tS_isLatin1 hj) rfl (Nat.le_of_ble_eq_true rfl) (Nat.le_of_ble_eq_true rfl) (Nat.le_of_ble_eq_true rfl) (Nat.le_refl _) (Nat.le_refl _) (Nat.le_refl _) (fun h => h) (Or.inl rfl) (q := 4) rfl (fun _ => ?_)
  refine J_if_eq (tgt := 23) dS_indexOf2_4 (by decide) (q := 7) rfl (fun c => absurd c (by decide)) (fun _ => ?_)
  refine J_aload_n (z := 0) dS_indexOf2_7 rfl rfl (q := 8) rfl ?_
  refine J_ktv dS_indexOf2_8 hj qf_v (q := 11) rfl ?_
  refine J_iload_n (z := 1) dS_indexOf2_11 rfl rfl (q := 12) rfl ?_
  refine J_iload_n (z := 2) dS_indexOf2_12 rfl rfl (q := 13) rfl ?_
  refine J_aload_n (z := 0) dS_indexOf2_13 rfl rfl (q := 14) rfl ?_
  refine J_callT (kc2 := 0) (ks2 := 0) (as := []) dS_indexOf2_14 (qt_S_length ql_S_length) hj (tS_length hj) rfl (Nat.le_of_ble_eq_true rfl) (Nat.le_of_ble_eq_true rfl) (Nat.le_of_ble_eq_true rfl) (Nat.le_refl _) (Nat.le_refl _) (Nat.le_refl _) (fun h => h) (Or.inl rfl) (q := 17) rfl (fun _ => ?_)
  rw [← (sc_len j hj).1]
  refine J_cSi (as := [.ref (1101 + 2 * j), .int (nI m), .int 0, .int (nI (lenKS.getD j 0))]) dS_indexOf2_17 qs_L_indexOf (tL_indexOf hj hm) rfl (Nat.le_of_ble_eq_true rfl) (Nat.le_of_ble_eq_true rfl) (Nat.le_of_ble_eq_true rfl) (q := 20) rfl (fun _ => ?_)
  refine J_goto (tgt := 36) dS_indexOf2_20 (by decide) ?_
  exact J_ireturn dS_indexOf2_36 rfl rfl rfl
theorem tS_indexOf (hj : j < 6) {m : Nat} (hm : m < 256) : MT X yJ0_indexOf_0f7a4 mS_indexOf 4 0 0 [.ref (1100 + 2 * j), .int (nI m)] n σ (n, some (.int (sixF (nI m) (bytKS.getD j []) 0)), σ) := by
  refine MT_of (by decide +kernel) rfl (fun h => by cases h) (Nat.le_of_ble_eq_true rfl) ?_
  show J X mS_indexOf 4 0 0 (n, some (.int (sixF (nI m) (bytKS.getD j []) 0)), σ) 0 [(0, .ref (1100 + 2 * j)), (1, .int (nI m))] [] n σ
  refine J_aload_n (z := 0) dS_indexOf_0 rfl rfl (q := 1) rfl ?_
  refine J_iload_n (z := 1) dS_indexOf_1 rfl rfl (q := 2) rfl ?_
  refine J_iconst (x := 0) dS_indexOf_2 (by decide) (q := 3) rfl ?_
  refine J_callT (kc2 := 0) (ks2 := 0) (as := [.int (nI m), .int 0]) dS_indexOf_3 (qt_S_indexOf2 ql_S_indexOf2) hj (tS_indexOf2 hj hm) rfl (Nat.le_of_ble_eq_true rfl) (Nat.le_of_ble_eq_true rfl) (Nat.le_of_ble_eq_true rfl) (Nat.le_refl _) (Nat.le_refl _) (Nat.le_refl _) (fun h => h) (Or.inl rfl) (q := 6) rfl (fun _ => ?_)
  exact J_ireturn dS_indexOf_6 rfl rfl rfl
end TextS
section TextR
variable {X : XS} {M : JM} {d kc ks : Nat} {F : Nat × Option Value × Mm} {pc q : Nat} {lv : List (Nat × Value)} {st : List Value} {n : Nat} {σ : Mm}
theorem J_strlen {idx c : Nat} (hd : decode M.1 pc = .ok (.invokevirtual idx, 3)) (hl : SLv M.2.1 idx yJ0_length_8abf5) (hr : RT n c 207) (hdd : 4 ≤ d) (hcat : (st.map fun v => v.category).sum ≤ 8) (hq : pc + 3 = q) (h : J X M d 0 0 F q lv (.int (slen c) :: st) n σ) : J X M d 0 0 F pc lv (.ref c :: st) n σ := by
  obtain ⟨j, hj, rfl⟩ := RT_T hr
  exact J_callT (kc2 := 0) (ks2 := 0) (as := []) hd (qt_S_length hl) hj (tS_length hj) rfl (by omega) (Nat.le_of_ble_eq_true rfl) hcat (Nat.le_refl _) (Nat.le_refl _) (Nat.le_refl _) (fun h => h) (Or.inl rfl) hq (fun _ => h)
theorem J_strat {idx c : Nat} {j : Int32} (hd : decode M.1 pc = .ok (.invokevirtual idx, 3)) (hl : SLv M.2.1 idx yJ0_charAt_5068e) (hr : RT n c 207) (hj : ixB j (slenN c) = true) (hdd : 7 ≤ d) (hcat : (st.map fun v => v.category).sum ≤ 8) (hq : pc + 3 = q) (h : J X M d 0 0 F q lv (.int (sat c j.toNatClampNeg) :: st) n σ) : J X M d 0 0 F pc lv (.int j :: .ref c :: st) n σ := by
  obtain ⟨i, hi, rfl⟩ := RT_T hr
  exact J_callT (kc2 := 0) (ks2 := 0) (as := [.int j]) hd (qt_S_charAt hl) hi (tS_charAt hi (by rw [(sc_len i hi).2.1]; exact hj)) rfl (by omega) (Nat.le_of_ble_eq_true rfl) hcat (Nat.le_refl _) (Nat.le_refl _) (Nat.le_refl _) (fun h => h) (Or.inl rfl) hq (fun _ => h)
theorem J_strix {idx c : Nat} {x : Int32} (hd : decode M.1 pc = .ok (.invokevirtual idx, 3)) (hl : SLv M.2.1 idx yJ0_indexOf_0f7a4) (hr : RT n c 207) (hx : chB x = true) (hdd : 8 ≤ d) (hcat : (st.map fun v => v.category).sum ≤ 8) (hq : pc + 3 = q) (h : J X M d 0 0 F q lv (.int (six c x) :: st) n σ) : J X M d 0 0 F pc lv (.int x :: .ref c :: st) n σ := by
  obtain ⟨i, hi, rfl⟩ := RT_T hr
  obtain ⟨x0, x1⟩ := chB_ok hx
  obtain ⟨m, hm, rfl⟩ := nI_of (x := x) (fun z => Int32.lt_irrefl (Int32.lt_of_lt_of_le z x0))
  have hm2 : m < 256 := (nI_ltI hm (by omega)).mp (show nI m < nI 256 from x1)
  have e : six (1100 + 2 * i) (nI m) = sixF (nI m) (bytKS.getD i []) 0 := by
    unfold six KSb
    rw [show (1100 + 2 * i - 1100) / 2 = i by omega]
  rw [e] at h
  exact J_callT (kc2 := 0) (ks2 := 0) (as := [.int (nI m)]) hd (qt_S_indexOf hl) hi (tS_indexOf hi hm2) rfl (by omega) (Nat.le_of_ble_eq_true rfl) hcat (Nat.le_refl _) (Nat.le_refl _) (Nat.le_refl _) (fun h => h) (Or.inl rfl) hq (fun _ => h)
end TextR
