/-! feed -/
section Feed
variable {σ τ : Mm}
def ch (a : Int32) (s : Nat) : Nat := ((a.toBitVec >>> s) &&& 255#32).toNat
theorem ch_lt (a : Int32) (s : Nat) : ch a s < 256 := by
  unfold ch
  rw [BitVec.toNat_and]
  exact Nat.lt_of_le_of_lt Nat.and_le_right (by decide)
theorem b255 : ∀ i, i < 32 → (255#32).getLsbD i = decide (i < 8) := by decide
theorem ss_us (x : BitVec 32) {s : Nat} (hs : s ≤ 24) : x.sshiftRight s &&& 255#32 = (x >>> s) &&& 255#32 := by
  apply BitVec.eq_of_getLsbD_eq
  intro i hi
  rw [BitVec.getLsbD_and, BitVec.getLsbD_and, b255 i hi]
  by_cases q : i < 8
  · rw [BitVec.getLsbD_sshiftRight, BitVec.getLsbD_ushiftRight]
    simp [show ¬ 32 ≤ i by omega, show s + i < 32 by omega]
  · rw [decide_eq_false q, Bool.and_false, Bool.and_false]
theorem nI_bv (x : BitVec 32) : nI x.toNat = Int32.ofBitVec x := by
  apply Int32.toBitVec_inj.mp
  show BitVec.ofNat 32 x.toNat = x
  rw [BitVec.ofNat_toNat, BitVec.setWidth_eq]
theorem us_bv (a : Int32) : (ushrI a 24).toBitVec = a.toBitVec >>> 24 ∧ (ushrI a 16).toBitVec = a.toBitVec >>> 16 ∧ (ushrI a 8).toBitVec = a.toBitVec >>> 8 ∧ (ushrI a 0).toBitVec = a.toBitVec >>> 0 := ⟨rfl, rfl, rfl, rfl⟩
theorem ss_bv (a : Int32) : (shrI a 24).toBitVec = a.toBitVec.sshiftRight 24 ∧ (shrI a 16).toBitVec = a.toBitVec.sshiftRight 16 ∧ (shrI a 8).toBitVec = a.toBitVec.sshiftRight 8 ∧ (shrI a 0).toBitVec = a.toBitVec.sshiftRight 0 := ⟨rfl, rfl, rfl, rfl⟩
theorem and_bv (x : Int32) (y : BitVec 32) (h : x.toBitVec = y) : x &&& 255 = nI (y &&& 255#32).toNat := by
  rw [nI_bv]
  apply Int32.toBitVec_inj.mp
  rw [← h]
  rfl
theorem by_and (x : Int32) : byI (byI x) = byI (x &&& 255) := by
  unfold byI
  rw [Int8.toInt8_toInt32, Int32.toInt8_and]
  congr 1
  rw [show (255 : Int32).toInt8 = -1 by decide, Int8.and_neg_one]
theorem ch_ok (a : Int32) {s : Nat} {v : Int32} (h : (s = 24 ∧ v = 24) ∨ (s = 16 ∧ v = 16) ∨ (s = 8 ∧ v = 8) ∨ (s = 0 ∧ v = 0)) : ushrI a v &&& 255 = nI (ch a s) ∧ shrI a v &&& 255 = nI (ch a s) ∧ byI (byI (shrI a v)) = byI (nI (ch a s)) := by
  obtain ⟨u1, u2, u3, u4⟩ := us_bv a
  obtain ⟨s1, s2, s3, s4⟩ := ss_bv a
  have go : ∀ x y : Int32, x.toBitVec = a.toBitVec >>> s → y.toBitVec = a.toBitVec.sshiftRight s → s ≤ 24 → x &&& 255 = nI (ch a s) ∧ y &&& 255 = nI (ch a s) ∧ byI (byI y) = byI (nI (ch a s)) := fun x y hx hy hs => by
    have e1 := and_bv x _ hx
    have e2 := and_bv y _ hy
    rw [ss_us _ hs] at e2
    exact ⟨e1, e2, by rw [by_and, e2]; rfl⟩
  rcases h with ⟨rfl, rfl⟩ | ⟨rfl, rfl⟩ | ⟨rfl, rfl⟩ | ⟨rfl, rfl⟩
  · exact go _ _ u1 s1 (by omega)
  · exact go _ _ u2 s2 (by omega)
  · exact go _ _ u3 s3 (by omega)
  · exact go _ _ u4 s4 (by omega)
def on (m : Nat) : Nat := if m = 0 then 0 else 1
def cn (a : Int32) : Nat := on (ch a 24) + on (ch a 16) + on (ch a 8) + on (ch a 0)
def xb (m : Nat) (x : (Nat → Nat) × Nat) : (Nat → Nat) × Nat := if m = 0 then x else (fun k => if k = x.2 then m else x.1 k, x.2 + 1)
def xs (a : Int32) (x : (Nat → Nat) × Nat) : (Nat → Nat) × Nat := xb (ch a 0) (xb (ch a 8) (xb (ch a 16) (xb (ch a 24) x)))
theorem xb_2 (m : Nat) (x : (Nat → Nat) × Nat) : (xb m x).2 = x.2 + on m := by
  unfold xb on; by_cases q : m = 0
  · rw [if_pos q, if_pos q]; rfl
  · rw [if_neg q, if_neg q]
theorem xs_2 (a : Int32) (x : (Nat → Nat) × Nat) : (xs a x).2 = x.2 + cn a := by
  unfold xs cn; rw [xb_2, xb_2, xb_2, xb_2]; omega
def CT (σ : Mm) (x : (Nat → Nat) × Nat) : Prop := gR σ 1 0 = some 2 ∧ gI σ 1 1 = nI x.2 ∧ x.2 ≤ 240 ∧ ∀ k, k < x.2 → 1 ≤ x.1 k ∧ x.1 k < 256 ∧ gI σ 2 k = nI (x.1 k)
def MTp (σ : Mm) (x : (Nat → Nat) × Nat) : Prop := gR σ 310 1 = some 311 ∧ gI σ 310 6 = nI x.2 ∧ x.2 ≤ 240 ∧ ∀ k, k < x.2 → gI σ 311 k = byI (nI (x.1 k))
def sFc (c k : Nat) : Bool := c == 2 || (c == 1 && k == 1)
def sFm (c k : Nat) : Bool := c == 311 || (c == 310 && k == 6)
theorem c_push {x : (Nat → Nat) × Nat} {a v : Int32} {m : Nat} (h : CT σ x) (hv : ¬ v < 0) (hm : m < 256) (hu : ushrI a v &&& 255 = nI m) (hL : x.2 + on m ≤ 240) : ∃ σ', fX7_append_l3 1 a v σ = some (Sum.inl (v + -8, σ')) ∧ CT σ' (xb m x) ∧ Sm sFc σ σ' := by
  obtain ⟨h1, h2, h3, h4⟩ := h
  unfold fX7_append_l3 fX7_append_b51 xb
  rw [if_neg hv, hu]
  by_cases q : m = 0
  · rw [if_pos (by rw [q]; rfl), if_pos q]
    exact ⟨σ, rfl, ⟨h1, h2, h3, h4⟩, Sm.rf⟩
  · unfold on at hL
    rw [if_neg q] at hL
    rw [if_neg (show ¬ nI m = 0 from fun z => q ((eqT (b := 0) (by omega) (by omega)).mp z)), if_neg q, h1, Option.bind_some, ln2.1, h2, if_neg (show ¬ nI 240 ≤ nI x.2 from fun z => absurd ((leT (by omega) (by omega)).mp z) (by omega)), if_pos (ixT (by omega) (by omega)), clT (by omega), gI_sI, if_neg (by omega), h2, nI_1]
    refine ⟨_, rfl, ⟨h1, by rw [gI_sI, if_pos ⟨rfl, rfl⟩], by dsimp only; omega, fun k hk => ?_⟩, (Sm.rf.sI rfl).sI rfl⟩
    rw [gI_sI, if_neg (by omega), gI_sI]
    dsimp only at hk ⊢
    by_cases z : k = x.2
    · rw [if_pos z, if_pos ⟨rfl, z⟩]; exact ⟨by omega, hm, rfl⟩
    · rw [if_neg z, if_neg (fun y => z y.2)]; exact h4 k (by omega)
theorem m_push {x : (Nat → Nat) × Nat} {a v : Int32} {m : Nat} (h : MTp σ x) (hv : ¬ v < 0) (hm : m < 256) (hu : shrI a v &&& 255 = nI m) (hb : byI (byI (shrI a v)) = byI (nI m)) (hL : x.2 + on m ≤ 240) : ∃ σ', fX10_put_l3 310 a v σ = some (Sum.inl (v + -8, σ')) ∧ MTp σ' (xb m x) ∧ Sm sFm σ σ' := by
  obtain ⟨h1, h2, h3, h4⟩ := h
  unfold fX10_put_l3 fX10_put_b43 xb
  rw [if_neg hv, hu]
  by_cases q : m = 0
  · rw [if_pos (by rw [q]; rfl), if_pos q]
    exact ⟨σ, rfl, ⟨h1, h2, h3, h4⟩, Sm.rf⟩
  · unfold on at hL
    rw [if_neg q] at hL
    rw [if_neg (show ¬ nI m = 0 from fun z => q ((eqT (b := 0) (by omega) (by omega)).mp z)), if_neg q, h1, Option.bind_some, ln2.2.1, h2, if_pos (ixT (by omega) (by omega)), clT (by omega), hb, gI_sI, if_neg (by omega), h2, nI_1]
    refine ⟨_, rfl, ⟨h1, by rw [gI_sI, if_pos ⟨rfl, rfl⟩], by dsimp only; omega, fun k hk => ?_⟩, (Sm.rf.sI rfl).sI rfl⟩
    rw [gI_sI, if_neg (by omega), gI_sI]
    dsimp only at hk ⊢
    by_cases z : k = x.2
    · rw [if_pos ⟨rfl, z⟩, if_pos z]
    · rw [if_neg (fun y => z y.2), if_neg z]; exact h4 k (by omega)
theorem five {α β : Type} {f : α → Option (α ⊕ β)} {a b c d e : α} {r : β} (h1 : f a = some (.inl b)) (h2 : f b = some (.inl c)) (h3 : f c = some (.inl d)) (h4 : f d = some (.inl e)) (h5 : f e = some (.inr r)) : wh f BIG a = some r := by
  show wh f (999995 + 1 + 1 + 1 + 1 + 1) a = some r
  rw [whL h1, whL h2, whL h3, whL h4, whR h5]
theorem sh8 : (24 : Int32) + -8 = 16 ∧ (16 : Int32) + -8 = 8 ∧ (8 : Int32) + -8 = 0 ∧ (0 : Int32) + -8 = -8 := by decide
theorem c_append {x : (Nat → Nat) × Nat} (a : Int32) (h : CT σ x) (hL : x.2 + cn a ≤ 240) : ∃ σ', fX7_append 1 a σ = some σ' ∧ CT σ' (xs a x) ∧ Sm sFc σ σ' := by
  unfold cn at hL
  obtain ⟨e1, e2, e3, e4⟩ := sh8
  obtain ⟨σ1, p1, p2, p3⟩ := c_push (v := 24) h (by decide) (ch_lt a 24) (ch_ok a (Or.inl ⟨rfl, rfl⟩)).1 (by omega)
  obtain ⟨σ2, q1, q2, q3⟩ := c_push (v := 16) p2 (by decide) (ch_lt a 16) (ch_ok a (Or.inr (Or.inl ⟨rfl, rfl⟩))).1 (by rw [xb_2]; omega)
  obtain ⟨σ3, r1, r2, r3⟩ := c_push (v := 8) q2 (by decide) (ch_lt a 8) (ch_ok a (Or.inr (Or.inr (Or.inl ⟨rfl, rfl⟩)))).1 (by rw [xb_2, xb_2]; omega)
  obtain ⟨σ4, s1, s2, s3⟩ := c_push (v := 0) r2 (by decide) (ch_lt a 0) (ch_ok a (Or.inr (Or.inr (Or.inr ⟨rfl, rfl⟩)))).1 (by rw [xb_2, xb_2, xb_2]; omega)
  rw [e1] at p1
  rw [e2] at q1
  rw [e3] at r1
  rw [e4] at s1
  refine ⟨σ4, ?_, s2, ((p3.tr q3).tr r3).tr s3⟩
  unfold fX7_append fX7_append_w3
  have : wh (fun y : Int32 × Mm => fX7_append_l3 1 a y.1 y.2) BIG (24, σ) = some σ4 := five (b := (16, σ1)) (c := (8, σ2)) (d := (0, σ3)) (e := (-8, σ4)) p1 q1 r1 s1 (by dsimp only; unfold fX7_append_l3; rw [if_pos (by decide)])
  rw [this]; rfl
theorem m_put {x : (Nat → Nat) × Nat} (a : Int32) (h : MTp σ x) (hL : x.2 + cn a ≤ 240) : ∃ σ', fX10_put 310 a σ = some σ' ∧ MTp σ' (xs a x) ∧ Sm sFm σ σ' := by
  unfold cn at hL
  obtain ⟨e1, e2, e3, e4⟩ := sh8
  have o1 := ch_ok a (Or.inl ⟨rfl, rfl⟩ : (24 = 24 ∧ (24 : Int32) = 24) ∨ _)
  have o2 := ch_ok a (s := 16) (v := 16) (Or.inr (Or.inl ⟨rfl, rfl⟩))
  have o3 := ch_ok a (s := 8) (v := 8) (Or.inr (Or.inr (Or.inl ⟨rfl, rfl⟩)))
  have o4 := ch_ok a (s := 0) (v := 0) (Or.inr (Or.inr (Or.inr ⟨rfl, rfl⟩)))
  obtain ⟨σ1, p1, p2, p3⟩ := m_push (v := 24) h (by decide) (ch_lt a 24) o1.2.1 o1.2.2 (by omega)
  obtain ⟨σ2, q1, q2, q3⟩ := m_push (v := 16) p2 (by decide) (ch_lt a 16) o2.2.1 o2.2.2 (by rw [xb_2]; omega)
  obtain ⟨σ3, r1, r2, r3⟩ := m_push (v := 8) q2 (by decide) (ch_lt a 8) o3.2.1 o3.2.2 (by rw [xb_2, xb_2]; omega)
  obtain ⟨σ4, s1, s2, s3⟩ := m_push (v := 0) r2 (by decide) (ch_lt a 0) o4.2.1 o4.2.2 (by rw [xb_2, xb_2, xb_2]; omega)
  rw [e1] at p1
  rw [e2] at q1
  rw [e3] at r1
  rw [e4] at s1
  refine ⟨σ4, ?_, s2, ((p3.tr q3).tr r3).tr s3⟩
  unfold fX10_put fX10_put_w3
  have : wh (fun y : Int32 × Mm => fX10_put_l3 310 a y.1 y.2) BIG (24, σ) = some σ4 := five (b := (16, σ1)) (c := (8, σ2)) (d := (0, σ3)) (e := (-8, σ4)) p1 q1 r1 s1 (by dsimp only; unfold fX10_put_l3; rw [if_pos (by decide)])
  rw [this]; rfl
theorem c_sign1 {a v : Int32} {m n : Nat} (hv : ¬ v < 0) (hm : m < 256) (hu : ushrI a v &&& 255 = nI m) : fX9_signsIn_l5 a (nI n) v σ = some (Sum.inl (nI (n + on m), v + -8)) := by
  unfold fX9_signsIn_l5 fX9_signsIn_b22 on
  rw [if_neg hv, hu]
  by_cases q : m = 0
  · rw [if_pos (by rw [q]; rfl), if_pos q]; rfl
  · rw [if_neg (show ¬ nI m = 0 from fun z => q ((eqT (b := 0) (by omega) (by omega)).mp z)), if_neg q, nI_1]
theorem m_byte1 {a v : Int32} {m n : Nat} (hv : ¬ v < 0) (hm : m < 256) (hu : shrI a v &&& 255 = nI m) : fX10_bytesIn_l5 a (nI n) v σ = some (Sum.inl (nI (n + on m), v + -8)) := by
  unfold fX10_bytesIn_l5 fX10_bytesIn_b25 on
  rw [if_neg hv, hu]
  by_cases q : m = 0
  · rw [if_pos (by rw [q]; rfl), if_pos q, Int32.add_zero]; rfl
  · rw [if_neg (show ¬ nI m = 0 from fun z => q ((eqT (b := 0) (by omega) (by omega)).mp z)), if_neg q, nI_1]
theorem c_signs (a : Int32) : fX9_signsIn a σ = some (nI (cn a)) := by
  obtain ⟨e1, e2, e3, e4⟩ := sh8
  have p1 := c_sign1 (σ := σ) (n := 0) (v := 24) (by decide) (ch_lt a 24) (ch_ok a (Or.inl ⟨rfl, rfl⟩)).1
  have q1 := c_sign1 (σ := σ) (n := 0 + on (ch a 24)) (v := 16) (by decide) (ch_lt a 16) (ch_ok a (Or.inr (Or.inl ⟨rfl, rfl⟩))).1
  have r1 := c_sign1 (σ := σ) (n := 0 + on (ch a 24) + on (ch a 16)) (v := 8) (by decide) (ch_lt a 8) (ch_ok a (Or.inr (Or.inr (Or.inl ⟨rfl, rfl⟩)))).1
  have s1 := c_sign1 (σ := σ) (n := 0 + on (ch a 24) + on (ch a 16) + on (ch a 8)) (v := 0) (by decide) (ch_lt a 0) (ch_ok a (Or.inr (Or.inr (Or.inr ⟨rfl, rfl⟩)))).1
  rw [e1] at p1
  rw [e2] at q1
  rw [e3] at r1
  rw [e4] at s1
  unfold fX9_signsIn fX9_signsIn_w5
  have : wh (fun y : Int32 × Int32 => fX9_signsIn_l5 a y.1 y.2 σ) BIG (0, 24) = some (nI (cn a)) := by
    refine five (b := (nI (0 + on (ch a 24)), 16)) (c := (nI (0 + on (ch a 24) + on (ch a 16)), 8)) (d := (nI (0 + on (ch a 24) + on (ch a 16) + on (ch a 8)), 0)) (e := (nI (0 + on (ch a 24) + on (ch a 16) + on (ch a 8) + on (ch a 0)), -8)) p1 q1 r1 s1 ?_
    dsimp only
    unfold fX9_signsIn_l5
    rw [if_pos (by decide), Nat.zero_add]; rfl
  rw [this]; rfl
theorem m_bytes (a : Int32) : fX10_bytesIn a σ = some (nI (cn a)) := by
  obtain ⟨e1, e2, e3, e4⟩ := sh8
  have p1 := m_byte1 (σ := σ) (n := 0) (v := 24) (by decide) (ch_lt a 24) (ch_ok a (Or.inl ⟨rfl, rfl⟩)).2.1
  have q1 := m_byte1 (σ := σ) (n := 0 + on (ch a 24)) (v := 16) (by decide) (ch_lt a 16) (ch_ok a (Or.inr (Or.inl ⟨rfl, rfl⟩))).2.1
  have r1 := m_byte1 (σ := σ) (n := 0 + on (ch a 24) + on (ch a 16)) (v := 8) (by decide) (ch_lt a 8) (ch_ok a (Or.inr (Or.inr (Or.inl ⟨rfl, rfl⟩)))).2.1
  have s1 := m_byte1 (σ := σ) (n := 0 + on (ch a 24) + on (ch a 16) + on (ch a 8)) (v := 0) (by decide) (ch_lt a 0) (ch_ok a (Or.inr (Or.inr (Or.inr ⟨rfl, rfl⟩)))).2.1
  rw [e1] at p1
  rw [e2] at q1
  rw [e3] at r1
  rw [e4] at s1
  unfold fX10_bytesIn fX10_bytesIn_w5
  have : wh (fun y : Int32 × Int32 => fX10_bytesIn_l5 a y.1 y.2 σ) BIG (0, 24) = some (nI (cn a)) := by
    refine five (b := (nI (0 + on (ch a 24)), 16)) (c := (nI (0 + on (ch a 24) + on (ch a 16)), 8)) (d := (nI (0 + on (ch a 24) + on (ch a 16) + on (ch a 8)), 0)) (e := (nI (0 + on (ch a 24) + on (ch a 16) + on (ch a 8) + on (ch a 0)), -8)) p1 q1 r1 s1 ?_
    dsimp only
    unfold fX10_bytesIn_l5
    rw [if_pos (by decide), Nat.zero_add]; rfl
  rw [this]; rfl
theorem cn_le (a : Int32) : cn a ≤ 4 := by
  unfold cn on
  have : ∀ m : Nat, (if m = 0 then 0 else 1) ≤ 1 := fun m => by split <;> omega
  have := this (ch a 24)
  have := ‹∀ m : Nat, (if m = 0 then 0 else 1) ≤ 1› (ch a 16)
  have := ‹∀ m : Nat, (if m = 0 then 0 else 1) ≤ 1› (ch a 8)
  have := ‹∀ m : Nat, (if m = 0 then 0 else 1) ≤ 1› (ch a 0)
  omega
def x5 (a b c d e : Int32) (x : (Nat → Nat) × Nat) : (Nat → Nat) × Nat := xs e (xs d (xs c (xs b (xs a x))))
def sFd (c k : Nat) : Bool := sFc c k || sFm c k || sT c k
variable {D np nr W H S acts nl t : Nat} {ru pg rd w : Nat → Int32} {F : Nat → LF} {lw : Option LF} {jl pw : Nat → Nat → Int32} {z : Bool}
theorem TP.ct {b : Nat → Nat} {L : Nat} (h : TP σ b L) (hF : RF σ) : CT σ (b, L) := ⟨hF.2.1, h.2.1, h.1, fun k hk => ⟨(h.2.2.2 k hk).1, (h.2.2.2 k hk).2.1, (h.2.2.2 k hk).2.2.1⟩⟩
theorem X_feed (h : CMz z np nr W H ru pg rd nl F lw D w S jl acts pw σ) (hz : z = true ∨ np = 0) (e : EX np nr nl F D σ) (hD : D ≤ 60 * t) (a1 a2 a3 a4 a5 : Int32) : STEP t σ (fX9_feed 0 a1 a2 a3 a4 a5 σ) (fX10_feed 310 a1 a2 a3 a4 a5) := by
  obtain ⟨⟨b, L, e1⟩, e2, e3, ⟨sl, e4, e5, e6⟩, ⟨npl, e7⟩, e8⟩ := id e
  have n4 := h.2.1.1.2.1
  have r0 : ∀ {s : Mm}, Sm sFc σ s → gR s 0 0 = some 1 := fun s => (s.2.2 _ _ (by omega)).trans h.rf.f0.1
  have c1 := cn_le a1
  have c2 := cn_le a2
  have c3 := cn_le a3
  have c4 := cn_le a4
  have c5 := cn_le a5
  have hL := e1.1
  by_cases q : L + (cn a1 + cn a2 + cn a3 + cn a4 + cn a5) ≤ 240
  · obtain ⟨s1, p1, p2, p3⟩ := c_append (x := (b, L)) a1 (e1.ct h.rf) (by dsimp only; omega)
    obtain ⟨s2, q1, q2, q3⟩ := c_append a2 p2 (by rw [xs_2]; dsimp only; omega)
    obtain ⟨s3, u1, u2, u3⟩ := c_append a3 q2 (by rw [xs_2, xs_2]; dsimp only; omega)
    obtain ⟨s4, v1, v2, v3⟩ := c_append a4 u2 (by rw [xs_2, xs_2, xs_2]; dsimp only; omega)
    obtain ⟨s5, w1, w2, w3⟩ := c_append a5 v2 (by rw [xs_2, xs_2, xs_2, xs_2]; dsimp only; omega)
    have k1 := p3
    have k2 := k1.tr q3
    have k3 := k2.tr u3
    have k4 := k3.tr v3
    have k5 := k4.tr w3
    have mT : MTp (sI s5 310 0 0) (b, L) := by
      have z : Sm (fun c k => sFc c k || sT c k) σ (sI s5 310 0 0) := (k5.mono (fun c k hc => (Bool.or_eq_false_iff.mp hc).1)).sI rfl
      exact ⟨(z.2.2 _ _ (by omega)).trans h.mm.1.hm.1.1, (z.1 310 6 rfl).trans e1.2.2.1, e1.1, fun k hk => (z.1 311 k rfl).trans (e1.2.2.2 k hk).2.2.2⟩
    obtain ⟨t1, i1, i2, i3⟩ := m_put (x := (b, L)) a1 mT (by dsimp only; omega)
    obtain ⟨t2, j1, j2, j3⟩ := m_put a2 i2 (by rw [xs_2]; dsimp only; omega)
    obtain ⟨t3, l1, l2, l3⟩ := m_put a3 j2 (by rw [xs_2, xs_2]; dsimp only; omega)
    obtain ⟨t4, m1, m2, m3⟩ := m_put a4 l2 (by rw [xs_2, xs_2, xs_2]; dsimp only; omega)
    obtain ⟨t5, o1, o2, o3⟩ := m_put a5 m2 (by rw [xs_2, xs_2, xs_2, xs_2]; dsimp only; omega)
    have tm : Sm (fun c k => sFm c k || sT c k) s5 t5 := ((Sm.rf.sI rfl : Sm (fun c k => sFm c k || sT c k) s5 (sI s5 310 0 0))).tr (((((i3.tr j3).tr l3).tr m3).tr o3).mono (fun c k hc => (Bool.or_eq_false_iff.mp hc).1))
    have s : Sm sFd σ t5 := (k5.mono (fun c k hc => by unfold sFd at hc; simp only [Bool.or_eq_false_iff] at hc; exact hc.1.1)).tr (tm.mono (fun c k hc => by unfold sFd at hc; simp only [Bool.or_eq_false_iff] at hc ⊢; exact ⟨hc.1.2, hc.2⟩))
    have nF : ∀ c k, ¬ (c = 1 ∨ c = 2 ∨ c = 311 ∨ (c = 310 ∧ (k = 0 ∨ k = 6))) → sFd c k = false := fun c k hc => by unfold sFd sFc sFm sT; simp; omega
    obtain ⟨f1, f2, f3, f4⟩ := w2
    obtain ⟨g1, g2, g3, g4⟩ := o2
    have eC : ∀ c k, (c = 1 ∨ c = 2) → gI t5 c k = gI s5 c k := fun c k hc => tm.1 c k (by unfold sFm sT; simp; omega)
    refine STEP.mk (v := nI (x5 a1 a2 a3 a4 a5 (b, L)).2) (σ1 := s5) (σ2 := t5) ?_ ?_ (h.ag2 s (fun c k hc => nF _ _ (by unfold kCC at hc; simp at hc; omega)) (fun c k hc => nF _ _ (by unfold kMM coreH at hc; simp at hc; omega)) (fun k => ⟨nF _ _ (by omega), nF _ _ (by omega)⟩)) hz ⟨⟨(x5 a1 a2 a3 a4 a5 (b, L)).1, (x5 a1 a2 a3 a4 a5 (b, L)).2, f3, (eC 1 1 (by omega)).trans f2, g2, fun k hk => ⟨(f4 k hk).1, (f4 k hk).2.1, (eC 2 k (by omega)).trans (f4 k hk).2.2, g4 k hk⟩⟩, e2.sm n4 s (nF _ _ (by omega)) (nF _ _ (by omega)) (nF _ _ (by omega)) (fun j k hj => ⟨nF _ _ (by omega), nF _ _ (by omega), nF _ _ (by omega)⟩), ?_, ⟨sl, e4, (s.1 0 17 (nF _ _ (by omega))).trans e5, (s.1 310 37 (nF _ _ (by omega))).trans e6⟩, ⟨npl, e7.sm s (nF _ _ (by omega)) (nF _ _ (by omega)) (fun c k hc => nF _ _ (by omega))⟩, e8.sm (Nat.le_refl _) s (nF _ _ (by omega)) (nF _ _ (by omega)) (fun c k hc => nF _ _ (by omega))⟩ (by omega)
    · unfold fX9_feed
      simp only [c_signs, Option.bind_some, r0 Sm.rf, e1.2.1, nI_add]
      rw [if_pos (show nI (L + (cn a1 + cn a2 + cn a3 + cn a4 + cn a5)) ≤ 240 from (leT (b := 240) (by omega) (by omega)).mpr q), p1, Option.bind_some, r0 k1, Option.bind_some, q1, Option.bind_some, r0 k2, Option.bind_some, u1, Option.bind_some, r0 k3, Option.bind_some, v1, Option.bind_some, r0 k4, Option.bind_some, w1, Option.bind_some, r0 k5, Option.bind_some, f2]
      rfl
    · unfold fX10_feed
      simp only [m_bytes, Option.bind_some, show gI (sI s5 310 0 0) 310 6 = nI L from mT.2.1, nI_add]
      rw [if_pos (show nI (L + cn a1 + cn a2 + cn a3 + cn a4 + cn a5) ≤ 240 from (leT (b := 240) (by omega) (by omega)).mpr (by omega)), i1, Option.bind_some, j1, Option.bind_some, l1, Option.bind_some, m1, Option.bind_some, o1, Option.bind_some, g2]
      rfl
    · rw [s.1 0 16 (nF _ _ (by omega)), s.1 310 36 (nF _ _ (by omega))]; exact e3
  · refine STEP.non (v := -1) h hz e hD ?_ ?_
    · unfold fX9_feed
      simp only [c_signs, Option.bind_some, r0 Sm.rf, e1.2.1, nI_add]
      rw [if_neg (show ¬ nI (L + (cn a1 + cn a2 + cn a3 + cn a4 + cn a5)) ≤ 240 from fun z => q ((leT (b := 240) (by omega) (by omega)).mp z))]
    · unfold fX10_feed
      simp only [m_bytes, Option.bind_some, show gI (sI σ 310 0 0) 310 6 = nI L from by rw [gI_sI, if_neg (by omega)]; exact e1.2.2.1, nI_add]
      rw [if_neg (show ¬ nI (L + cn a1 + cn a2 + cn a3 + cn a4 + cn a5) ≤ 240 from fun z => q (by have := (leT (b := 240) (by omega) (by omega)).mp z; omega))]
end Feed
