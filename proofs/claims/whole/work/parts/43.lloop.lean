/-! small things for the loop -/
theorem J_more {X : XS} {M : JM} {d kc ks : Nat} {F : Nat × Option Value × Mm} {pc : Nat} {lv : List (Nat × Value)} {st : List Value} {n : Nat} {σ : Mm} {a b : Nat} (h : J X M d kc ks F pc lv st n σ) : J X M d (kc + a) (ks + b) F pc lv st n σ := by
  intro p l e R s m args below meth c Ae ne D tc S A H locs cells slots ls C h1 h2 h3 h3' h4 h5 hP hD hS hL
  exact h p l e R s m args below meth c Ae ne D tc S A H locs cells slots ls C (by omega) (by omega) h3 h3' h4 h5 hP hD hS hL
theorem s6_toInt {L : Nat} (hL : L ≤ 3072) : (nI L - 6).toInt = (L : Int) - 6 := by
  rw [Int32.toInt_sub, nI_toInt (by omega), show (6 : Int32).toInt = 6 by decide, Int.bmod_eq_of_le (by omega) (by omega)]
theorem sub6 {L t : Nat} (hL : L ≤ 3072) (h : L < 6 * t + 6) (ht : t ≤ 600) : nI L - 6 < nI (6 * t) := by
  rw [Int32.lt_iff_toInt_lt, s6_toInt hL, nI_toInt (by omega)]
  omega
theorem sub6n {L t : Nat} (hL : L ≤ 3072) (h : 6 * t + 6 ≤ L) : ¬ nI L - 6 < nI (6 * t) := by
  rw [Int32.lt_iff_toInt_lt, s6_toInt hL, nI_toInt (by omega)]
  omega
/-! the law: reader's turn, and the loop -/
section LawL
variable {X : XS} {t : Nat} {σ : Mm} {D np nr W H S acts nl : Nat} {ru pg rd w : Nat → Int32} {F : Nat → LF} {lw : Option LF} {jl pw : Nat → Nat → Int32} {z : Bool}
theorem ALL.out {v : Int64} (h : CMz z np nr W H ru pg rd nl F lw D w S jl acts pw σ) (e : EX np nr nl F D σ) : CMz z np nr W H ru pg rd nl F lw D w S jl acts pw (sL σ 333 0 v) ∧ EX np nr nl F D (sL σ 333 0 v) := by
  have s : Sm (fun c _ => c == 333) σ (sL σ 333 0 v) := Sm.rf.sL rfl
  refine ⟨h.ag2 s (fun c k hc => ?_) (fun c k hc => ?_) (fun k => ⟨rfl, rfl⟩), e.sm h.2.1.1.2.1 (Nat.le_refl _) s (fun c k hc => ?_)⟩
  · unfold kCC at hc; simp at hc ⊢; omega
  · unfold kMM coreH at hc
    simp only [Bool.or_eq_true, Bool.and_eq_true, beq_iff_eq] at hc
    simp only [beq_eq_false_iff_ne, ne_eq]
    omega
  · unfold exK at hc; simp at hc ⊢; omega
theorem ALL.up (h : ALL t σ) : ALL (t + 1) σ := by
  obtain ⟨z, np, nr, W, H, ru, pg, rd, nl, F, lw, D, w, S, jl, acts, pw, h1, hz, h2, h3⟩ := h
  exact ⟨z, np, nr, W, H, ru, pg, rd, nl, F, lw, D, w, S, jl, acts, pw, h1, hz, h2, by omega⟩
theorem lg_cmp_self (x : Int64) : lg_cmp x x = 0 := by
  unfold lg_cmp
  rw [if_neg (Int64.lt_irrefl), if_pos rfl]
/-- behind the call of the helper, up to the turn's end -/
theorem rd_tail {σ1 σ2 : Mm} {k a : Int32} {F : Nat × Option Value × Mm} {kc ks : Nat} (hl : 6 * t + 6 ≤ X.1) (hX : X.1 ≤ 3072) (e2 : fX10_reader 310 (X.2 (nI (6 * t) + nI 1).toNatClampNeg) (X.2 (nI (6 * t) + nI 2).toNatClampNeg) σ1 = some (a, σ2)) (hk : gI σ2 310 0 = k) (ho : k = 0 → gL σ2 333 0 = a.toInt64) (hf : J X mL_law 300 kc ks F 1635 (LVL t) [] 335 σ2) : J X mL_law 300 kc ks F 459 (LVL t) [.int k] 335 σ1 := by
  have et : fX10_thrown 310 σ2 = some k := by unfold fX10_thrown; rw [hk]
  unfold LVL at hf ⊢
  refine J_istore (lv' := [(5, .int k), (4, .int (nI (6 * t))), (0, .ref 1010), (1, .ref 0), (2, .ref 310), (3, .ref 333)]) dL_law_459 (by decide) rfl (q := 461) rfl ?_
  refine J_aload_n (z := 4) dL_law_461 rfl rfl (q := 462) rfl ?_
  refine J_aload_n (z := 2) dL_law_462 rfl rfl (q := 463) rfl ?_
  refine J_iload (z := 1) dL_law_463 rfl (q := 465) rfl ?_
  refine J_iconst (x := nI 1) dL_law_465 (by decide) (q := 466) rfl ?_
  refine J_iadd dL_law_466 (q := 467) rfl ?_
  refine J_sld dL_law_467 (sl_in (k := 1) (by decide) hl hX) (q := 468) rfl ?_
  refine J_aload_n (z := 2) dL_law_468 rfl rfl (q := 469) rfl ?_
  refine J_iload (z := 1) dL_law_469 rfl (q := 471) rfl ?_
  refine J_iconst (x := nI 2) dL_law_471 (by decide) (q := 472) rfl ?_
  refine J_iadd dL_law_472 (q := 473) rfl ?_
  refine J_sld dL_law_473 (sl_in (k := 2) (by decide) hl hX) (q := 474) rfl ?_
  refine J_callV (as := [.int (X.2 (nI (6 * t) + nI 1).toNatClampNeg), .int (X.2 (nI (6 * t) + nI 2).toNatClampNeg)]) (kc2 := kc) (ks2 := ks) (F1 := (335, some (.int a), σ2)) dL_law_474 mRL_51 rt310 (tX10_reader rt310 e2) rfl (Nat.le_of_ble_eq_true rfl) (Nat.le_of_ble_eq_true rfl) (Nat.le_of_ble_eq_true rfl) (by omega) (by omega) (Nat.le_refl _) (fun h => h) (Or.inl rfl) (q := 477) rfl (fun _ => ?_)
  refine J_istore (lv' := [(6, .int a), (5, .int k), (4, .int (nI (6 * t))), (0, .ref 1010), (1, .ref 0), (2, .ref 310), (3, .ref 333)]) dL_law_477 (by decide) rfl (q := 479) rfl ?_
  refine J_aload_n (z := 5) dL_law_479 rfl rfl (q := 480) rfl ?_
  refine J_callV (as := []) (kc2 := kc) (ks2 := ks) (F1 := (335, some (.int k), σ2)) dL_law_480 mRL_52 rt310 (tX10_thrown rt310 et) rfl (Nat.le_of_ble_eq_true rfl) (Nat.le_of_ble_eq_true rfl) (Nat.le_of_ble_eq_true rfl) (by omega) (by omega) (Nat.le_refl _) (fun h => h) (Or.inl rfl) (q := 483) rfl (fun _ => ?_)
  refine J_iload (z := 1) dL_law_483 rfl (q := 485) rfl ?_
  refine J_icmp_eq (tgt := 490) dL_law_485 (by decide) (q := 488) rfl (fun _ => ?_) (fun c => absurd rfl c)
  refine J_iload (z := 1) dL_law_490 rfl (q := 492) rfl ?_
  have hend : J X mL_law 300 kc ks F 507 [(6, .int a), (5, .int k), (4, .int (nI (6 * t))), (0, .ref 1010), (1, .ref 0), (2, .ref 310), (3, .ref 333)] [] 335 σ2 := by
    refine J_goto (tgt := 1635) dL_law_507 (by decide) ?_
    exact J_pick [2, 3, 4, 5, 6] rfl hf
  refine J_if_ne (tgt := 507) dL_law_492 (by decide) (q := 495) rfl (fun _ => hend) (fun hk0 => ?_)
  refine J_aload_n (z := 6) dL_law_495 rfl rfl (q := 496) rfl ?_
  refine J_iconst (x := 0) dL_law_496 (by decide) (q := 497) rfl ?_
  refine J_lald dL_law_497 rt333 (nI_in (c := 0) (by decide +kernel) (by decide +kernel)) (q := 498) rfl ?_
  refine J_iload (z := 0) dL_law_498 rfl (q := 500) rfl ?_
  refine J_i2l dL_law_500 (q := 501) rfl ?_
  refine J_lcmp dL_law_501 (q := 502) rfl ?_
  rw [show gL σ2 333 (Int32.toNatClampNeg 0) = a.toInt64 from ho hk0, lg_cmp_self]
  exact J_if_eq (tgt := 507) dL_law_502 (by decide) (q := 505) rfl (fun _ => hend) (fun c => absurd rfl c)
theorem rd_head {F1 : Mm} {k : Int32} {F : Nat × Option Value × Mm} {kc ks : Nat} (hl : 6 * t + 6 ≤ X.1) (hX : X.1 ≤ 3072) (hM : MR X (X.2 (nI (6 * t) + nI 1).toNatClampNeg) (X.2 (nI (6 * t) + nI 2).toNatClampNeg) 335 σ (335, some (.int k), F1)) (hf : J X mL_law 300 kc ks F 459 (LVL t) [.int k] 335 F1) : J X mL_law 300 (kc + 1) (ks + 6) F 442 (LVL t) [] 335 σ := by
  unfold LVL at hf ⊢
  refine J_aload_n (z := 2) dL_law_442 rfl rfl (q := 443) rfl ?_
  refine J_aload_n (z := 1) dL_law_443 rfl rfl (q := 444) rfl ?_
  refine J_iload (z := 0) dL_law_444 rfl (q := 446) rfl ?_
  refine J_iconst (x := nI 1) dL_law_446 (by decide) (q := 447) rfl ?_
  refine J_iadd dL_law_447 (q := 448) rfl ?_
  refine J_sld dL_law_448 (sl_in (k := 1) (by decide) hl hX) (q := 449) rfl ?_
  refine J_aload_n (z := 1) dL_law_449 rfl rfl (q := 450) rfl ?_
  refine J_iload (z := 0) dL_law_450 rfl (q := 452) rfl ?_
  refine J_iconst (x := nI 2) dL_law_452 (by decide) (q := 453) rfl ?_
  refine J_iadd dL_law_453 (q := 454) rfl ?_
  refine J_sld dL_law_454 (sl_in (k := 2) (by decide) hl hX) (q := 455) rfl ?_
  refine J_aload_n (z := 4) dL_law_455 rfl rfl (q := 456) rfl ?_
  exact J_callR (kc2 := kc) (ks2 := ks) (st := []) (q := 459) rfl dL_law_456 hM rfl (by decide) (by decide) (by omega) (by omega) rfl rfl hf
theorem rt3 : RT 335 3 101 := RT_ob (c := 1) (by decide +kernel) (by decide)
theorem rt89 : RT 335 89 106 := RT_ob (c := 6) (by decide +kernel) (by decide)
theorem rt92 : RT 335 92 200 := RT_ar (t := 0) (L := 6) (by decide +kernel) (by decide)
theorem lw_6 (h : ALL t σ) (ht : t ≤ 1000) (hl : 6 * t + 6 ≤ X.1) (hX : X.1 ≤ 3072) : TURN1 X t σ 442 := by
  obtain ⟨z, np, nr, W, H, ru, pg, rd, nl, F, lw, D, w, S, jl, acts, pw, h1, hz, h2, h3⟩ := h
  generalize ea : X.2 (nI (6 * t) + nI 1).toNatClampNeg = a
  generalize eb : X.2 (nI (6 * t) + nI 2).toNatClampNeg = b
  have r1 : gR σ 0 1 = some 3 := h1.rf.1 1 (by omega)
  have r7 : gR σ 0 7 = some 89 := h1.rf.1 7 (by omega)
  by_cases hg : (∃ r, r < nr ∧ a = nI r) ∧ ∃ k, 0 ≤ k ∧ k ≤ 5 ∧ b = nI k
  · obtain ⟨⟨r, hr, e1⟩, k, -, hk, e3⟩ := hg
    have hnp : 0 < np := by
      by_cases q : 0 < np
      · exact q
      · have := nr0 h1 q; omega
    have hz1 : z = true := by rcases hz with y | y; exact y; omega
    have hc := h1.cm hz1
    have g2 := hc.g.2.1
    obtain ⟨p0, p1, p2, p3, p4, p5, p6⟩ := c_reader hc hr
    have hs := h1.rf.sr89
    have hf4 : rdV rd w r 4 = 0 ∨ rdV rd w r 4 = 1 := by
      unfold fX6_hasDone at p5
      split at p5 <;> (have := Option.some.inj p5; first | exact Or.inr this.symm | exact Or.inl this.symm)
    have hM := tX9_reader (X := X) (f := fun k => rdV rd w r k) rt0 rt3 rt89 r1 r7 hs.2.2.1 rt92 (show r < 6 by omega) hk p0 p1 p2 p3 p4 p5 p6 hf4
    have hMR := M_LrG rt0 rt333 hM
    obtain ⟨q1, q2⟩ := ALL.out (v := (rdV rd w r k).toInt64) h1 h2
    have hm := m_reader (q1.cm hz1) hr hk
    refine ⟨sI (sL σ 333 0 (rdV rd w r k).toInt64) 310 0 0, ALL.note q1 hz q2 h3, fun F kc ks hf => ?_⟩
    rw [← e1, ← e3] at hMR hm
    rw [← ea, ← eb] at hMR hm
    refine rd_head hl hX hMR (rd_tail hl hX hm (by rw [gI_sI, if_pos ⟨rfl, rfl⟩]) (fun _ => ?_) hf)
    rw [gL_sI, gL_sL, if_pos ⟨rfl, rfl⟩]
  · have hm := m_reader_out h1 hg
    have hh : ∃ hr, fX1_hasReader 3 a σ = some hr ∧ (hr = 0 ∨ b < 0 ∨ ¬ b ≤ 5) := by
      by_cases hx : ∃ r, r < nr ∧ a = nI r
      · obtain ⟨r, hr, rfl⟩ := hx
        refine ⟨1, c_hasReader h1.g h1.hc hr, Or.inr ?_⟩
        by_cases hb0 : b < 0
        · exact Or.inl hb0
        · obtain ⟨k, hk, rfl⟩ := nI_of hb0
          refine Or.inr (fun z => hg ⟨⟨r, hr, rfl⟩, k, Nat.zero_le _, ?_, rfl⟩)
          exact (nI_leI hk (by omega)).mp (show nI k ≤ nI 5 from z)
      · exact ⟨0, c_hasReader_out h1.g h1.hc hx, Or.inl rfl⟩
    obtain ⟨hr, hh1, hb1⟩ := hh
    have hMR := M_LrX (X := X) rt0 rt3 r1 hh1 hb1
    refine ⟨sI σ 310 0 1, ALL.note h1 hz h2 h3, fun F kc ks hf => ?_⟩
    rw [← ea, ← eb] at hMR hm
    exact rd_head hl hX hMR (rd_tail hl hX hm (by rw [gI_sI, if_pos ⟨rfl, rfl⟩]) (fun z => absurd z (by decide)) hf)
theorem and63 (x : Int32) : ∃ m, m < 64 ∧ x &&& 63 = nI m := by
  refine ⟨(x.toBitVec &&& 63#32).toNat, ?_, ?_⟩
  · rw [BitVec.toNat_and]
    exact Nat.lt_of_le_of_lt Nat.and_le_right (by decide)
  · apply Int32.toBitVec_inj.1
    show x.toBitVec &&& 63#32 = BitVec.ofNat 32 _
    rw [BitVec.ofNat_toNat, BitVec.setWidth_eq]
/-- a turn, from the loop's head on -/
theorem turn (h : ALL t σ) (ht : t ≤ 1000) (hl : 6 * t + 6 ≤ X.1) (hX : X.1 ≤ 3072) : TURN1 X t σ 33 := by
  obtain ⟨m, hm, em⟩ := and63 (X.2 (nI (6 * t)).toNatClampNeg)
  have hd : ∀ pc, TURN1 X t σ pc → ((∀ q ∈ TSL, q.1 = nI m → q.2 = pc) ∧ ((∃ q ∈ TSL, q.1 = nI m) ∨ pc = 1635)) → TURN1 X t σ 33 := by
    intro pc ⟨σ1, hA, hJ⟩ ⟨hq, hq2⟩
    refine ⟨σ1, hA, fun F kc ks hf => ?_⟩
    have hj := hJ F kc ks hf
    have i0 : vp_in (nI (6 * t)) X.1 := nI_in (by omega) (by omega)
    unfold LVL at hj ⊢
    refine J_aload_n (z := 1) dL_law_33 rfl rfl (q := 34) rfl ?_
    refine J_iload (z := 0) dL_law_34 rfl (q := 36) rfl ?_
    refine J_sld dL_law_36 i0 (q := 37) rfl ?_
    refine J_bipush (x := 63) dL_law_37 (by decide) (q := 39) rfl ?_
    refine J_iand dL_law_39 (q := 40) rfl ?_
    rw [em]
    refine J_table dL_law_40 TSL 1635 (by decide +kernel) (by decide +kernel) (by decide) (fun q qm qe => ?_) (fun hne => ?_)
    · rw [hq q qm qe.symm]; exact hj
    · rcases hq2 with ⟨q, qm, qe⟩ | e
      · exact absurd qe.symm (hne q qm)
      · rw [e] at hj; exact hj
  have hcase : m = 0 ∨ m = 1 ∨ m = 2 ∨ m = 3 ∨ m = 4 ∨ m = 5 ∨ m = 6 ∨ m = 7 ∨ m = 8 ∨ m = 9 ∨ m = 10 ∨ m = 11 ∨ m = 12 ∨ m = 13 ∨ m = 14 ∨ m = 15 ∨ m = 16 ∨ m = 17 ∨ m = 18 ∨ m = 19 ∨ m = 20 ∨ m = 21 ∨ m = 22 ∨ m = 23 ∨ m = 24 ∨ m = 25 ∨ m = 26 ∨ m = 27 ∨ m = 28 ∨ m = 29 ∨ m = 30 ∨ m = 31 ∨ m = 32 ∨ m = 33 ∨ m = 34 ∨ m = 35 ∨ m = 36 ∨ m = 37 ∨ m = 38 ∨ m = 39 ∨ m = 40 ∨ m = 41 ∨ m = 42 ∨ m = 43 ∨ 44 ≤ m := by omega
  rcases hcase with rfl | rfl | rfl | rfl | rfl | rfl | rfl | rfl | rfl | rfl | rfl | rfl | rfl | rfl | rfl | rfl | rfl | rfl | rfl | rfl | rfl | rfl | rfl | rfl | rfl | rfl | rfl | rfl | rfl | rfl | rfl | rfl | rfl | rfl | rfl | rfl | rfl | rfl | rfl | rfl | rfl | rfl | rfl | rfl | h44
  · exact hd 232 (lw_0 h ht hl hX) (by decide +kernel)
  · exact hd 305 (lw_1 h ht hl hX) (by decide +kernel)
  · exact hd 330 (lw_2 h ht hl hX) (by decide +kernel)
  · exact hd 355 (lw_3 h ht hl hX) (by decide +kernel)
  · exact hd 380 (lw_4 h ht hl hX) (by decide +kernel)
  · exact hd 405 (lw_5 h ht hl hX) (by decide +kernel)
  · exact hd 442 (lw_6 h ht hl hX) (by decide +kernel)
  · exact hd 510 (lw_7 h ht hl hX) (by decide +kernel)
  · exact hd 547 (lw_8 h ht hl hX) (by decide +kernel)
  · exact hd 572 (lw_9 h ht hl hX) (by decide +kernel)
  · exact hd 597 (lw_10 h ht hl hX) (by decide +kernel)
  · exact hd 646 (lw_11 h ht hl hX) (by decide +kernel)
  · exact hd 683 (lw_12 h ht hl hX) (by decide +kernel)
  · exact hd 720 (lw_13 h ht hl hX) (by decide +kernel)
  · exact hd 757 (lw_14 h ht hl hX) (by decide +kernel)
  · exact hd 794 (lw_15 h ht hl hX) (by decide +kernel)
  · exact hd 807 (lw_16 h ht hl hX) (by decide +kernel)
  · exact hd 832 (lw_17 h ht hl hX) (by decide +kernel)
  · exact hd 901 (lw_18 h ht hl hX) (by decide +kernel)
  · exact hd 914 (lw_19 h ht hl hX) (by decide +kernel)
  · exact hd 951 (lw_20 h ht hl hX) (by decide +kernel)
  · exact hd 1000 (lw_21 h ht hl hX) (by decide +kernel)
  · exact hd 1037 (lw_22 h ht hl hX) (by decide +kernel)
  · exact hd 1062 (lw_23 h ht hl hX) (by decide +kernel)
  · exact hd 1099 (lw_24 h ht hl hX) (by decide +kernel)
  · exact hd 1124 (lw_25 h ht hl hX) (by decide +kernel)
  · exact hd 1149 (lw_26 h ht hl hX) (by decide +kernel)
  · exact hd 1198 (lw_27 h ht hl hX) (by decide +kernel)
  · exact hd 1235 (lw_28 h ht hl hX) (by decide +kernel)
  · exact hd 1260 (lw_29 h ht hl hX) (by decide +kernel)
  · exact hd 1273 (lw_30 h ht hl hX) (by decide +kernel)
  · exact hd 1310 (lw_31 h ht hl hX) (by decide +kernel)
  · exact hd 1323 (lw_32 h ht hl hX) (by decide +kernel)
  · exact hd 1336 (lw_33 h ht hl hX) (by decide +kernel)
  · exact hd 1349 (lw_34 h ht hl hX) (by decide +kernel)
  · exact hd 1362 (lw_35 h ht hl hX) (by decide +kernel)
  · exact hd 1399 (lw_36 h ht hl hX) (by decide +kernel)
  · exact hd 1460 (lw_37 h ht hl hX) (by decide +kernel)
  · exact hd 1509 (lw_38 h ht hl hX) (by decide +kernel)
  · exact hd 1534 (lw_39 h ht hl hX) (by decide +kernel)
  · exact hd 1571 (lw_40 h ht hl hX) (by decide +kernel)
  · exact hd 1584 (lw_41 h ht hl hX) (by decide +kernel)
  · exact hd 1597 (lw_42 h ht hl hX) (by decide +kernel)
  · exact hd 1610 (lw_43 h ht hl hX) (by decide +kernel)
  · refine hd 1635 ⟨σ, h.up, fun F kc ks hf => J_more hf⟩ ⟨fun q qm qe => ?_, Or.inr rfl⟩
    have : ∀ q ∈ TSL, ∃ k, k < 44 ∧ q.1 = nI k := by decide +kernel
    obtain ⟨k, hk, e⟩ := this q qm
    have := (nI_eq (by omega) (by omega)).mp (e.symm.trans qe)
    omega
/-- the loop -/
theorem loopL (hX : X.1 ≤ 3072) : ∀ r t σ, X.1 < 6 * t + 6 + 6 * r → t ≤ 600 → ALL t σ → ∃ σ', J X mL_law 300 r (6 * r) (335, some (.int 1), σ') 23 (LVL t) [] 335 σ := by
  intro r
  induction r with
  | zero =>
    intro t σ hr ht h
    refine ⟨σ, ?_⟩
    unfold LVL
    refine J_iload (z := 0) dL_law_23 rfl (q := 25) rfl ?_
    refine J_aload_n (z := 1) dL_law_25 rfl rfl (q := 26) rfl ?_
    refine J_slen dL_law_26 (q := 27) rfl ?_
    refine J_bipush (x := 6) dL_law_27 (by decide) (q := 29) rfl ?_
    refine J_isub dL_law_29 (q := 30) rfl ?_
    refine J_icmp_gt (tgt := 1641) dL_law_30 (by decide) (q := 33) rfl (fun _ => ?_) (fun c => absurd (sub6 hX (by omega) (by omega)) c)
    refine J_iconst (x := 1) dL_law_1641 (by decide) (q := 1642) rfl ?_
    exact J_ireturn dL_law_1642 rfl rfl rfl
  | succ r ih =>
    intro t σ hr ht h
    by_cases hl : 6 * t + 6 ≤ X.1
    · obtain ⟨σ1, hA, hJ⟩ := turn h (by omega) hl hX
      obtain ⟨σ', hi⟩ := ih (t + 1) σ1 (by omega) (by omega) hA
      refine ⟨σ', ?_⟩
      have hb : J X mL_law 300 r (6 * r) (335, some (.int 1), σ') 1635 (LVL t) [] 335 σ1 := by
        unfold LVL at hi ⊢
        refine J_iinc (z := 0) (y := nI (6 * (t + 1))) (lv' := [(4, .int (nI (6 * (t + 1)))), (0, .ref 1010), (1, .ref 0), (2, .ref 310), (3, .ref 333)]) dL_law_1635 rfl (by rw [show Int32.ofInt 6 = nI 6 from rfl, nI_add]; exact congrArg nI (by omega)) (by decide) rfl (q := 1638) rfl ?_
        exact J_goto (tgt := 23) dL_law_1638 (by decide) hi
      have h33 := hJ _ _ _ hb
      unfold LVL at h33 ⊢
      refine J_iload (z := 0) dL_law_23 rfl (q := 25) rfl ?_
      refine J_aload_n (z := 1) dL_law_25 rfl rfl (q := 26) rfl ?_
      refine J_slen dL_law_26 (q := 27) rfl ?_
      refine J_bipush (x := 6) dL_law_27 (by decide) (q := 29) rfl ?_
      refine J_isub dL_law_29 (q := 30) rfl ?_
      exact J_icmp_gt (tgt := 1641) dL_law_30 (by decide) (q := 33) rfl (fun c => absurd c (sub6n hX hl)) (fun _ => h33)
    · refine ⟨σ, ?_⟩
      unfold LVL
      refine J_iload (z := 0) dL_law_23 rfl (q := 25) rfl ?_
      refine J_aload_n (z := 1) dL_law_25 rfl rfl (q := 26) rfl ?_
      refine J_slen dL_law_26 (q := 27) rfl ?_
      refine J_bipush (x := 6) dL_law_27 (by decide) (q := 29) rfl ?_
      refine J_isub dL_law_29 (q := 30) rfl ?_
      refine J_icmp_gt (tgt := 1641) dL_law_30 (by decide) (q := 33) rfl (fun _ => ?_) (fun c => absurd (sub6 hX (by omega) (by omega)) c)
      refine J_iconst (x := 1) dL_law_1641 (by decide) (q := 1642) rfl ?_
      exact J_ireturn dL_law_1642 rfl rfl rfl
end LawL
