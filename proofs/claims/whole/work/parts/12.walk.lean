def fJ7_fill_53178_l5 (a0 : Nat) (a1 : Int32) (a3 : Int32) (a2 : Int32) (σ : Mm) : Option ((Int32 × Mm) ⊕ (Mm)) :=
  if a3 ≤ a2 then some (Sum.inr σ) else if ixB a2 (ln a0) = true then some (Sum.inl ((a2 + 1), (sI σ a0 (Int32.toNatClampNeg a2) a1))) else none
set_option maxRecDepth 20000 in
set_option maxHeartbeats 2000000 in
theorem tJ7_fill_53178_l5 {X : XS} {n : Nat} {σ : Mm} {F : Nat × Option Value × Mm} {a0 : Nat} {a1 : Int32} {a3 : Int32} {a2 : Int32} (ha0 : RT n a0 200) {res : (Int32 × Mm) ⊕ (Mm)} (h : fJ7_fill_53178_l5 a0 a1 a3 a2 σ = some res) (hc : ∀ (b2 : Int32) (s : Mm), res = .inl (b2, s) → J X mJ7_fill_53178 1 0 0 F 5 [(0, .ref a0), (1, .int a1), (2, .int b2), (3, .int a3)] [] n s) (hr : ∀ (s : Mm), res = .inr s → F = (n, none, s)) : J X mJ7_fill_53178 1 0 0 F 5 [(0, .ref a0), (1, .int a1), (2, .int a2), (3, .int a3)] [] n σ := by
  unfold fJ7_fill_53178_l5 at h
  refine J_iload_n (z := 2) dJ7_fill_53178_5 rfl rfl (q := 6) rfl ?_
  refine J_iload_n (z := 3) dJ7_fill_53178_6 rfl rfl (q := 7) rfl ?_
  refine J_icmp_ge (tgt := 20) dJ7_fill_53178_7 (by decide) (q := 10) rfl (fun c0 => ?_) (fun c0 => ?_)
  · rw [if_pos c0] at h
    have h := Option.some.inj h
    exact J_return dJ7_fill_53178_20 rfl (hr _ h.symm)
  · rw [if_neg c0] at h
    refine J_aload_n (z := 0) dJ7_fill_53178_10 rfl rfl (q := 11) rfl ?_
    refine J_iload_n (z := 2) dJ7_fill_53178_11 rfl rfl (q := 12) rfl ?_
    refine J_iload_n (z := 1) dJ7_fill_53178_12 rfl rfl (q := 13) rfl ?_
    obtain ⟨g2, h⟩ := iteS h
    refine J_iast dJ7_fill_53178_13 ha0 (ixB_ok g2) (q := 14) rfl ?_
    refine J_iinc (z := 2) (y := (a2 + 1)) (lv' := [(2, .int (a2 + 1)), (0, .ref a0), (1, .int a1), (3, .int a3)]) dJ7_fill_53178_14 rfl rfl (by decide) rfl (q := 17) rfl ?_
    refine J_goto (tgt := 5) dJ7_fill_53178_17 (by decide) ?_
    have h := Option.some.inj h
    refine J_pick [1, 2, 0, 3] rfl ?_
    exact hc _ _ h.symm

def fJ7_fill_53178_w5 (a0 : Nat) (a1 : Int32) (a3 : Int32) (a2 : Int32) (σ : Mm) : Option (Mm) :=
  wh (fun a : Int32 × Mm => fJ7_fill_53178_l5 a0 a1 a3 a.1 a.2) BIG (a2, σ)
set_option maxRecDepth 20000 in
set_option maxHeartbeats 2000000 in
theorem tJ7_fill_53178_w5 {X : XS} {n : Nat} {σ : Mm} {F : Nat × Option Value × Mm} {a0 : Nat} {a1 : Int32} {a3 : Int32} {a2 : Int32} (ha0 : RT n a0 200) {res : Mm} (h : fJ7_fill_53178_w5 a0 a1 a3 a2 σ = some res) (hr : ∀ (s : Mm), res = s → F = (n, none, s)) : J X mJ7_fill_53178 1 0 0 F 5 [(0, .ref a0), (1, .int a1), (2, .int a2), (3, .int a3)] [] n σ := by
  unfold fJ7_fill_53178_w5 at h
  refine wh_rule (P := fun a : Int32 × Mm => J X mJ7_fill_53178 1 0 0 F 5 [(0, .ref a0), (1, .int a1), (2, .int a.1), (3, .int a3)] [] n a.2) (K := fun b => b = res) ?_ _ _ _ h rfl
  intro a
  refine ⟨fun a2 hb hP => ?_, fun b hb hK => ?_⟩
  · exact tJ7_fill_53178_l5 ha0 hb (fun _ _ e => by cases e; exact hP) (fun _ e => by cases e)
  · subst hK
    exact tJ7_fill_53178_l5 ha0 hb (fun _ _ e => by cases e) (fun v0 e => hr v0 (Sum.inr.inj e))

def fJ7_fill_53178 (a0 : Nat) (a1 : Int32) (σ : Mm) : Option (Mm) :=
  (fJ7_fill_53178_w5 a0 a1 (nI (ln a0)) 0 σ).bind (fun o3 => some o3)
set_option maxRecDepth 20000 in
set_option maxHeartbeats 2000000 in
theorem tJ7_fill_53178 {X : XS} {n : Nat} {σ : Mm} {a0 : Nat} {a1 : Int32} (ha0 : RT n a0 200) {res : Mm} (h : fJ7_fill_53178 a0 a1 σ = some res) : MT X yJ7_fill_53178 mJ7_fill_53178 1 0 0 [.ref a0, .int a1] n σ (n, none, res) := by
  unfold fJ7_fill_53178 at h
  refine MT_of (by decide +kernel) rfl (fun h => by cases h) (Nat.le_of_ble_eq_true rfl) ?_
  show J X mJ7_fill_53178 1 0 0 (n, none, res) 0 [(0, .ref a0), (1, .int a1)] [] n σ
  refine J_iconst (x := 0) dJ7_fill_53178_0 (by decide) (q := 1) rfl ?_
  refine J_istore_n (lv' := [(2, .int 0), (0, .ref a0), (1, .int a1)]) dJ7_fill_53178_1 rfl (by decide) rfl (q := 2) rfl ?_
  refine J_aload_n (z := 1) dJ7_fill_53178_2 rfl rfl (q := 3) rfl ?_
  refine J_alen (t := 0) dJ7_fill_53178_3 ha0 (by decide) rfl (q := 4) rfl ?_
  refine J_istore_n (lv' := [(3, .int (nI (ln a0))), (2, .int 0), (0, .ref a0), (1, .int a1)]) dJ7_fill_53178_4 rfl (by decide) rfl (q := 5) rfl ?_
  obtain ⟨o3, hlo3, h⟩ := bindS h
  refine J_pick [2, 3, 1, 0] rfl ?_
  refine tJ7_fill_53178_w5 ha0 hlo3 ?_
  · intro so3 qo3
    rw [qo3] at h
    try dsimp only [Sum.elim_inl, Sum.elim_inr] at h
    have h := Option.some.inj h
    subst h
    rfl

def fX0_findShare_b73 (a0 : Nat) (a1 : Nat) (a3 : Int32) (a4 : Int32) (σ : Mm) : Option ((Int32 × Mm) ⊕ (Mm)) :=
  some (Sum.inl ((a4 + 1), σ))
set_option maxRecDepth 20000 in
set_option maxHeartbeats 2000000 in
theorem tX0_findShare_b73 {X : XS} {n : Nat} {σ : Mm} {F : Nat × Option Value × Mm} {a0 : Nat} {a1 : Nat} {a3 : Int32} {a4 : Int32} (ha0 : RT n a0 100) (ha1 : RT n a1 106) {res : (Int32 × Mm) ⊕ (Mm)} (h : fX0_findShare_b73 a0 a1 a3 a4 σ = some res) (hc : ∀ (b4 : Int32) (s : Mm), res = .inl (b4, s) → J X mX0_findShare 6 0 0 F 37 [(0, .ref a0), (1, .ref a1), (3, .int a3), (4, .int b4)] [] n s) (he0 : ∀  (s : Mm), res = .inr s → J X mX0_findShare 6 0 0 F 79 [(0, .ref a0)] [] n s) : J X mX0_findShare 6 0 0 F 73 [(0, .ref a0), (1, .ref a1), (3, .int a3), (4, .int a4)] [] n σ := by
  unfold fX0_findShare_b73 at h
  refine J_iinc (z := 3) (y := (a4 + 1)) (lv' := [(4, .int (a4 + 1)), (0, .ref a0), (1, .ref a1), (3, .int a3)]) dX0_findShare_73 rfl rfl (by decide) rfl (q := 76) rfl ?_
  refine J_goto (tgt := 37) dX0_findShare_76 (by decide) ?_
  have h := Option.some.inj h
  refine J_pick [1, 2, 3, 0] rfl ?_
  exact hc _ _ h.symm

def fX0_findShare_l37 (a0 : Nat) (a1 : Nat) (a3 : Int32) (a4 : Int32) (σ : Mm) : Option ((Int32 × Mm) ⊕ (Mm)) :=
  (gR σ a0 0).bind fun r9 => if (gI σ r9 4) ≤ a4 then some (Sum.inr σ) else if ((shrI a3 a4) &&& 1) = 1 then (fX1_pageCell r9 a4 σ).bind fun vk12 => (fX0_shareOut a0 a1 vk12 σ).bind fun sk13 => fX0_findShare_b73 a0 a1 a3 a4 sk13 else fX0_findShare_b73 a0 a1 a3 a4 σ
set_option maxRecDepth 20000 in
set_option maxHeartbeats 2000000 in
theorem tX0_findShare_l37 {X : XS} {n : Nat} {σ : Mm} {F : Nat × Option Value × Mm} {a0 : Nat} {a1 : Nat} {a3 : Int32} {a4 : Int32} (ha0 : RT n a0 100) (ha1 : RT n a1 106) {res : (Int32 × Mm) ⊕ (Mm)} (h : fX0_findShare_l37 a0 a1 a3 a4 σ = some res) (hc : ∀ (b4 : Int32) (s : Mm), res = .inl (b4, s) → J X mX0_findShare 6 0 0 F 37 [(0, .ref a0), (1, .ref a1), (3, .int a3), (4, .int b4)] [] n s) (he0 : ∀  (s : Mm), res = .inr s → J X mX0_findShare 6 0 0 F 79 [(0, .ref a0)] [] n s) : J X mX0_findShare 6 0 0 F 37 [(0, .ref a0), (1, .ref a1), (3, .int a3), (4, .int a4)] [] n σ := by
  unfold fX0_findShare_l37 at h
  refine J_iload (z := 3) dX0_findShare_37 rfl (q := 39) rfl ?_
  refine J_aload_n (z := 0) dX0_findShare_39 rfl rfl (q := 40) rfl ?_
  obtain ⟨r9, er9, h⟩ := bindS h
  refine J_getR dX0_findShare_40 lRX0_28 ha0 rfl (by decide) er9 (q := 43) rfl (fun fr9 => ?_)
  refine J_getI dX0_findShare_43 lRX0_76 fr9 rfl (q := 46) rfl ?_
  refine J_icmp_ge (tgt := 79) dX0_findShare_46 (by decide) (q := 49) rfl (fun c9 => ?_) (fun c9 => ?_)
  · rw [if_pos c9] at h
    have h := Option.some.inj h
    refine J_pick [0] rfl ?_
    exact he0 _ h.symm
  · rw [if_neg c9] at h
    refine J_iload_n (z := 2) dX0_findShare_49 rfl rfl (q := 50) rfl ?_
    refine J_iload (z := 3) dX0_findShare_50 rfl (q := 52) rfl ?_
    refine J_ishr dX0_findShare_52  (q := 53) rfl ?_
    refine J_iconst (x := 1) dX0_findShare_53 (by decide) (q := 54) rfl ?_
    refine J_iand dX0_findShare_54  (q := 55) rfl ?_
    refine J_iconst (x := 1) dX0_findShare_55 (by decide) (q := 56) rfl ?_
    refine J_icmp_ne (tgt := 73) dX0_findShare_56 (by decide) (q := 59) rfl (fun c10 => ?_) (fun c10 => ?_)
    · rw [if_neg c10] at h
      refine J_pick [0, 1, 2, 3] rfl ?_
      exact tX0_findShare_b73 ha0 ha1 h hc he0
    · rw [if_pos c10] at h
      refine J_aload_n (z := 0) dX0_findShare_59 rfl rfl (q := 60) rfl ?_
      refine J_aload_n (z := 1) dX0_findShare_60 rfl rfl (q := 61) rfl ?_
      refine J_aload_n (z := 0) dX0_findShare_61 rfl rfl (q := 62) rfl ?_
      refine J_getR dX0_findShare_62 lRX0_28 ha0 rfl (by decide) er9 (q := 65) rfl (fun _ => ?_)
      refine J_iload (z := 3) dX0_findShare_65 rfl (q := 67) rfl ?_
      obtain ⟨vk12, hk12, h⟩ := bindS h
      refine J_cVi (as := [.int a4]) dX0_findShare_67 mRX0_94 fr9 (tX1_pageCell fr9 hk12) rfl (Nat.le_of_ble_eq_true rfl) (Nat.le_of_ble_eq_true rfl) (Nat.le_of_ble_eq_true rfl) (q := 70) rfl ?_
      intro bk12
      obtain ⟨sk13, hk13, h⟩ := bindS h
      refine J_cVv (as := [.ref a1, .int vk12]) dX0_findShare_70 mRX0_97 ha0 (tX0_shareOut ha0 ha1 hk13) rfl (Nat.le_of_ble_eq_true rfl) (Nat.le_of_ble_eq_true rfl) (Nat.le_of_ble_eq_true rfl) (q := 73) rfl ?_
      refine J_pick [0, 1, 2, 3] rfl ?_
      exact tX0_findShare_b73 ha0 ha1 h hc he0

def fX0_findShare_w37 (a0 : Nat) (a1 : Nat) (a3 : Int32) (a4 : Int32) (σ : Mm) : Option (Mm) :=
  wh (fun a : Int32 × Mm => fX0_findShare_l37 a0 a1 a3 a.1 a.2) BIG (a4, σ)
set_option maxRecDepth 20000 in
set_option maxHeartbeats 2000000 in
theorem tX0_findShare_w37 {X : XS} {n : Nat} {σ : Mm} {F : Nat × Option Value × Mm} {a0 : Nat} {a1 : Nat} {a3 : Int32} {a4 : Int32} (ha0 : RT n a0 100) (ha1 : RT n a1 106) {res : Mm} (h : fX0_findShare_w37 a0 a1 a3 a4 σ = some res) (he0 : ∀  (s : Mm), res = s → J X mX0_findShare 6 0 0 F 79 [(0, .ref a0)] [] n s) : J X mX0_findShare 6 0 0 F 37 [(0, .ref a0), (1, .ref a1), (3, .int a3), (4, .int a4)] [] n σ := by
  unfold fX0_findShare_w37 at h
  refine wh_rule (P := fun a : Int32 × Mm => J X mX0_findShare 6 0 0 F 37 [(0, .ref a0), (1, .ref a1), (3, .int a3), (4, .int a.1)] [] n a.2) (K := fun b => b = res) ?_ _ _ _ h rfl
  intro a
  refine ⟨fun a2 hb hP => ?_, fun b hb hK => ?_⟩
  · exact tX0_findShare_l37 ha0 ha1 hb (fun _ _ e => by cases e; exact hP) (fun _ e => by cases e)
  · subst hK
    exact tX0_findShare_l37 ha0 ha1 hb (fun _ _ e => by cases e) (fun v0 e => he0 v0 (Sum.inr.inj e))

def fX0_findShare_b151 (a0 : Nat) (a4 : Int32) (a5 : Int32) (σ : Mm) : Option ((Int32 × Int32) ⊕ (Int32 × Mm)) :=
  some (Sum.inl (a4, (a5 + 1)))
set_option maxRecDepth 20000 in
set_option maxHeartbeats 2000000 in
theorem tX0_findShare_b151 {X : XS} {n : Nat} {σ : Mm} {F : Nat × Option Value × Mm} {a0 : Nat} {a4 : Int32} {a5 : Int32} (ha0 : RT n a0 100) {res : (Int32 × Int32) ⊕ (Int32 × Mm)} (h : fX0_findShare_b151 a0 a4 a5 σ = some res) (hc : ∀ (b4 : Int32) (b5 : Int32), res = .inl (b4, b5) → J X mX0_findShare 6 0 0 F 85 [(0, .ref a0), (4, .int b4), (5, .int b5)] [] n σ) (hr : ∀ (v : Int32) (s : Mm), res = .inr (v, s) → F = (n, some (.int v), s)) : J X mX0_findShare 6 0 0 F 151 [(0, .ref a0), (4, .int a4), (5, .int a5)] [] n σ := by
  unfold fX0_findShare_b151 at h
  refine J_iinc (z := 2) (y := (a5 + 1)) (lv' := [(5, .int (a5 + 1)), (0, .ref a0), (4, .int a4)]) dX0_findShare_151 rfl rfl (by decide) rfl (q := 154) rfl ?_
  refine J_goto (tgt := 85) dX0_findShare_154 (by decide) ?_
  have h := Option.some.inj h
  refine J_pick [1, 2, 0] rfl ?_
  exact hc _ _ h.symm

def fX0_findShare_b147 (a0 : Nat) (a5 : Int32) (σ : Mm) : Option ((Int32 × Int32) ⊕ (Int32 × Mm)) :=
  fX0_findShare_b151 a0 a5 a5 σ
set_option maxRecDepth 20000 in
set_option maxHeartbeats 2000000 in
theorem tX0_findShare_b147 {X : XS} {n : Nat} {σ : Mm} {F : Nat × Option Value × Mm} {a0 : Nat} {a5 : Int32} (ha0 : RT n a0 100) {res : (Int32 × Int32) ⊕ (Int32 × Mm)} (h : fX0_findShare_b147 a0 a5 σ = some res) (hc : ∀ (b4 : Int32) (b5 : Int32), res = .inl (b4, b5) → J X mX0_findShare 6 0 0 F 85 [(0, .ref a0), (4, .int b4), (5, .int b5)] [] n σ) (hr : ∀ (v : Int32) (s : Mm), res = .inr (v, s) → F = (n, some (.int v), s)) : J X mX0_findShare 6 0 0 F 147 [(0, .ref a0), (5, .int a5)] [] n σ := by
  unfold fX0_findShare_b147 at h
  refine J_iload (z := 1) dX0_findShare_147 rfl (q := 149) rfl ?_
  refine J_istore (lv' := [(4, .int a5), (0, .ref a0), (5, .int a5)]) dX0_findShare_149 (by decide) rfl (q := 151) rfl ?_
  refine J_pick [1, 0, 2] rfl ?_
  exact tX0_findShare_b151 ha0 h hc hr

def fX0_findShare_l85 (a0 : Nat) (a4 : Int32) (a5 : Int32) (σ : Mm) : Option ((Int32 × Int32) ⊕ (Int32 × Mm)) :=
  (gR σ a0 3).bind fun r15 => if (nI (ln r15)) ≤ a5 then some (Sum.inr (a4, σ)) else (fJ6_bitCount_0f7a4 a5 σ).bind fun vk17 => (fJ6_bitCount_0f7a4 a4 σ).bind fun vk18 => if ixB a5 (ln r15) = true then if 1000000 ≤ (gI σ r15 (Int32.toNatClampNeg a5)) then fX0_findShare_b151 a0 a4 a5 σ else if 0 < (vk17 - vk18) then fX0_findShare_b147 a0 a5 σ else if (vk17 - vk18) = 0 then if ixB a5 (ln r15) = true then if ixB a4 (ln r15) = true then if (gI σ r15 (Int32.toNatClampNeg a4)) ≤ (gI σ r15 (Int32.toNatClampNeg a5)) then fX0_findShare_b151 a0 a4 a5 σ else fX0_findShare_b147 a0 a5 σ else none else none else fX0_findShare_b151 a0 a4 a5 σ else none
set_option maxRecDepth 20000 in
set_option maxHeartbeats 2000000 in
theorem tX0_findShare_l85 {X : XS} {n : Nat} {σ : Mm} {F : Nat × Option Value × Mm} {a0 : Nat} {a4 : Int32} {a5 : Int32} (ha0 : RT n a0 100) {res : (Int32 × Int32) ⊕ (Int32 × Mm)} (h : fX0_findShare_l85 a0 a4 a5 σ = some res) (hc : ∀ (b4 : Int32) (b5 : Int32), res = .inl (b4, b5) → J X mX0_findShare 6 0 0 F 85 [(0, .ref a0), (4, .int b4), (5, .int b5)] [] n σ) (hr : ∀ (v : Int32) (s : Mm), res = .inr (v, s) → F = (n, some (.int v), s)) : J X mX0_findShare 6 0 0 F 85 [(0, .ref a0), (4, .int a4), (5, .int a5)] [] n σ := by
  unfold fX0_findShare_l85 at h
  refine J_iload (z := 2) dX0_findShare_85 rfl (q := 87) rfl ?_
  refine J_aload_n (z := 0) dX0_findShare_87 rfl rfl (q := 88) rfl ?_
  obtain ⟨r15, er15, h⟩ := bindS h
  refine J_getR dX0_findShare_88 lRX0_17 ha0 rfl (by decide) er15 (q := 91) rfl (fun fr15 => ?_)
  refine J_alen (t := 0) dX0_findShare_91 fr15 (by decide) rfl (q := 92) rfl ?_
  refine J_icmp_ge (tgt := 157) dX0_findShare_92 (by decide) (q := 95) rfl (fun c15 => ?_) (fun c15 => ?_)
  · rw [if_pos c15] at h
    refine J_iload (z := 1) dX0_findShare_157 rfl (q := 159) rfl ?_
    have h := Option.some.inj h
    exact J_ireturn dX0_findShare_159 rfl rfl (hr _ _ h.symm)
  · rw [if_neg c15] at h
    refine J_iload (z := 2) dX0_findShare_95 rfl (q := 97) rfl ?_
    obtain ⟨vk17, hk17, h⟩ := bindS h
    refine J_cSi (as := [.int a5]) dX0_findShare_97 mRX0_49 (tJ6_bitCount_0f7a4  hk17) rfl (Nat.le_of_ble_eq_true rfl) (Nat.le_of_ble_eq_true rfl) (Nat.le_of_ble_eq_true rfl) (q := 100) rfl ?_
    intro bk17
    refine J_iload (z := 1) dX0_findShare_100 rfl (q := 102) rfl ?_
    obtain ⟨vk18, hk18, h⟩ := bindS h
    refine J_cSi (as := [.int a4]) dX0_findShare_102 mRX0_49 (tJ6_bitCount_0f7a4  hk18) rfl (Nat.le_of_ble_eq_true rfl) (Nat.le_of_ble_eq_true rfl) (Nat.le_of_ble_eq_true rfl) (q := 105) rfl ?_
    intro bk18
    refine J_isub dX0_findShare_105  (q := 106) rfl ?_
    refine J_istore (lv' := [(6, .int (vk17 - vk18)), (0, .ref a0), (4, .int a4), (5, .int a5)]) dX0_findShare_106 (by decide) rfl (q := 108) rfl ?_
    refine J_aload_n (z := 1) dX0_findShare_108 rfl rfl (q := 109) rfl ?_
    refine J_getR dX0_findShare_109 lRX0_17 ha0 rfl (by decide) er15 (q := 112) rfl (fun _ => ?_)
    refine J_iload (z := 3) dX0_findShare_112 rfl (q := 114) rfl ?_
    obtain ⟨g19, h⟩ := iteS h
    refine J_iald dX0_findShare_114 fr15 (ixB_ok g19) (q := 115) rfl ?_
    refine J_ldc (x := 1000000) dX0_findShare_115 kRX0_87 (q := 117) rfl ?_
    refine J_icmp_ge (tgt := 151) dX0_findShare_117 (by decide) (q := 120) rfl (fun c19 => ?_) (fun c19 => ?_)
    · rw [if_pos c19] at h
      refine J_pick [1, 2, 3] rfl ?_
      exact tX0_findShare_b151 ha0 h hc hr
    · rw [if_neg c19] at h
      refine J_iload (z := 0) dX0_findShare_120 rfl (q := 122) rfl ?_
      refine J_if_gt (tgt := 147) dX0_findShare_122 (by decide) (q := 125) rfl (fun c20 => ?_) (fun c20 => ?_)
      · rw [if_pos c20] at h
        refine J_pick [1, 3] rfl ?_
        exact tX0_findShare_b147 ha0 h hc hr
      · rw [if_neg c20] at h
        refine J_iload (z := 0) dX0_findShare_125 rfl (q := 127) rfl ?_
        refine J_if_ne (tgt := 151) dX0_findShare_127 (by decide) (q := 130) rfl (fun c21 => ?_) (fun c21 => ?_)
        · rw [if_neg c21] at h
          refine J_pick [1, 2, 3] rfl ?_
          exact tX0_findShare_b151 ha0 h hc hr
        · rw [if_pos c21] at h
          refine J_aload_n (z := 1) dX0_findShare_130 rfl rfl (q := 131) rfl ?_
          refine J_getR dX0_findShare_131 lRX0_17 ha0 rfl (by decide) er15 (q := 134) rfl (fun _ => ?_)
          refine J_iload (z := 3) dX0_findShare_134 rfl (q := 136) rfl ?_
          obtain ⟨g23, h⟩ := iteS h
          refine J_iald dX0_findShare_136 fr15 (ixB_ok g23) (q := 137) rfl ?_
          refine J_aload_n (z := 1) dX0_findShare_137 rfl rfl (q := 138) rfl ?_
          refine J_getR dX0_findShare_138 lRX0_17 ha0 rfl (by decide) er15 (q := 141) rfl (fun _ => ?_)
          refine J_iload (z := 2) dX0_findShare_141 rfl (q := 143) rfl ?_
          obtain ⟨g24, h⟩ := iteS h
          refine J_iald dX0_findShare_143 fr15 (ixB_ok g24) (q := 144) rfl ?_
          refine J_icmp_ge (tgt := 151) dX0_findShare_144 (by decide) (q := 147) rfl (fun c24 => ?_) (fun c24 => ?_)
          · rw [if_pos c24] at h
            refine J_pick [1, 2, 3] rfl ?_
            exact tX0_findShare_b151 ha0 h hc hr
          · rw [if_neg c24] at h
            refine J_pick [1, 3] rfl ?_
            exact tX0_findShare_b147 ha0 h hc hr

def fX0_findShare_w85 (a0 : Nat) (a4 : Int32) (a5 : Int32) (σ : Mm) : Option (Int32 × Mm) :=
  wh (fun a : Int32 × Int32 => fX0_findShare_l85 a0 a.1 a.2 σ) BIG (a4, a5)
set_option maxRecDepth 20000 in
set_option maxHeartbeats 2000000 in
theorem tX0_findShare_w85 {X : XS} {n : Nat} {σ : Mm} {F : Nat × Option Value × Mm} {a0 : Nat} {a4 : Int32} {a5 : Int32} (ha0 : RT n a0 100) {res : Int32 × Mm} (h : fX0_findShare_w85 a0 a4 a5 σ = some res) (hr : ∀ (v : Int32) (s : Mm), res = (v, s) → F = (n, some (.int v), s)) : J X mX0_findShare 6 0 0 F 85 [(0, .ref a0), (4, .int a4), (5, .int a5)] [] n σ := by
  unfold fX0_findShare_w85 at h
  refine wh_rule (P := fun a : Int32 × Int32 => J X mX0_findShare 6 0 0 F 85 [(0, .ref a0), (4, .int a.1), (5, .int a.2)] [] n σ) (K := fun b => b = res) ?_ _ _ _ h rfl
  intro a
  refine ⟨fun a2 hb hP => ?_, fun b hb hK => ?_⟩
  · exact tX0_findShare_l85 ha0 hb (fun _ _ e => by cases e; exact hP) (fun _ _ e => by cases e)
  · subst hK
    exact tX0_findShare_l85 ha0 hb (fun _ _ e => by cases e) (fun v0 v1 e => hr v0 v1 (Sum.inr.inj e))

def fX0_findShare (a0 : Nat) (a1 : Nat) (a2 : Int32) (σ : Mm) : Option (Int32 × Mm) :=
  (gR σ a0 3).bind fun r1 => (fJ7_fill_53178 r1 1000000 σ).bind fun sk2 => (gR sk2 a0 3).bind fun r3 => if ixB 0 (ln r3) = true then (gR sk2 a0 1).bind fun r5 => (fX8_pagesThere r5 a1 (sI sk2 r3 (Int32.toNatClampNeg 0) 0)).bind fun vk6 => (gR sk2 a0 0).bind fun r7 => (fX1_pagesOf r7 a2 (sI sk2 r3 (Int32.toNatClampNeg 0) 0)).bind fun vk8 => (fX0_findShare_w37 a0 a1 (vk6 &&& vk8) 0 (sI sk2 r3 (Int32.toNatClampNeg 0) 0)).bind (fun o14 => (fun so14 => (fX0_findShare_w85 a0 0 1 so14).bind (fun o26 => some o26)) o14) else none
set_option maxRecDepth 20000 in
set_option maxHeartbeats 2000000 in
theorem tX0_findShare {X : XS} {n : Nat} {σ : Mm} {a0 : Nat} {a1 : Nat} {a2 : Int32} (ha0 : RT n a0 100) (ha1 : RT n a1 106) {res : Int32 × Mm} (h : fX0_findShare a0 a1 a2 σ = some res) : MT X yX0_findShare mX0_findShare 6 0 0 [.ref a0, .ref a1, .int a2] n σ (n, some (.int res.1), res.2) := by
  unfold fX0_findShare at h
  refine MT_of (by decide +kernel) rfl (fun h => by cases h) (Nat.le_of_ble_eq_true rfl) ?_
  show J X mX0_findShare 6 0 0 (n, some (.int res.1), res.2) 0 [(0, .ref a0), (1, .ref a1), (2, .int a2)] [] n σ
  refine J_aload_n (z := 0) dX0_findShare_0 rfl rfl (q := 1) rfl ?_
  obtain ⟨r1, er1, h⟩ := bindS h
  refine J_getR dX0_findShare_1 lRX0_17 ha0 rfl (by decide) er1 (q := 4) rfl (fun fr1 => ?_)
  refine J_ldc (x := 1000000) dX0_findShare_4 kRX0_87 (q := 6) rfl ?_
  obtain ⟨sk2, hk2, h⟩ := bindS h
  refine J_cSv (as := [.ref r1, .int 1000000]) dX0_findShare_6 mRX0_88 (tJ7_fill_53178 fr1 hk2) rfl (Nat.le_of_ble_eq_true rfl) (Nat.le_of_ble_eq_true rfl) (Nat.le_of_ble_eq_true rfl) (q := 9) rfl ?_
  refine J_aload_n (z := 0) dX0_findShare_9 rfl rfl (q := 10) rfl ?_
  obtain ⟨r3, er3, h⟩ := bindS h
  refine J_getR dX0_findShare_10 lRX0_17 ha0 rfl (by decide) er3 (q := 13) rfl (fun fr3 => ?_)
  refine J_iconst (x := 0) dX0_findShare_13 (by decide) (q := 14) rfl ?_
  refine J_iconst (x := 0) dX0_findShare_14 (by decide) (q := 15) rfl ?_
  obtain ⟨g4, h⟩ := iteS h
  refine J_iast dX0_findShare_15 fr3 (ixB_ok g4) (q := 16) rfl ?_
  refine J_aload_n (z := 0) dX0_findShare_16 rfl rfl (q := 17) rfl ?_
  obtain ⟨r5, er5, h⟩ := bindS h
  refine J_getR dX0_findShare_17 lRX0_32 ha0 rfl (by decide) er5 (q := 20) rfl (fun fr5 => ?_)
  refine J_aload_n (z := 1) dX0_findShare_20 rfl rfl (q := 21) rfl ?_
  obtain ⟨vk6, hk6, h⟩ := bindS h
  refine J_cVi (as := [.ref a1]) dX0_findShare_21 mRX0_37 fr5 (tX8_pagesThere fr5 ha1 hk6) rfl (Nat.le_of_ble_eq_true rfl) (Nat.le_of_ble_eq_true rfl) (Nat.le_of_ble_eq_true rfl) (q := 24) rfl ?_
  intro bk6
  refine J_aload_n (z := 0) dX0_findShare_24 rfl rfl (q := 25) rfl ?_
  obtain ⟨r7, er7, h⟩ := bindS h
  refine J_getR dX0_findShare_25 lRX0_28 ha0 rfl (by decide) er7 (q := 28) rfl (fun fr7 => ?_)
  refine J_iload_n (z := 2) dX0_findShare_28 rfl rfl (q := 29) rfl ?_
  obtain ⟨vk8, hk8, h⟩ := bindS h
  refine J_cVi (as := [.int a2]) dX0_findShare_29 mRX0_43 fr7 (tX1_pagesOf fr7 hk8) rfl (Nat.le_of_ble_eq_true rfl) (Nat.le_of_ble_eq_true rfl) (Nat.le_of_ble_eq_true rfl) (q := 32) rfl ?_
  intro bk8
  refine J_iand dX0_findShare_32  (q := 33) rfl ?_
  refine J_istore_n (lv' := [(3, .int (vk6 &&& vk8)), (0, .ref a0), (1, .ref a1), (2, .int a2)]) dX0_findShare_33 rfl (by decide) rfl (q := 34) rfl ?_
  refine J_iconst (x := 0) dX0_findShare_34 (by decide) (q := 35) rfl ?_
  refine J_istore (lv' := [(4, .int 0), (3, .int (vk6 &&& vk8)), (0, .ref a0), (1, .ref a1), (2, .int a2)]) dX0_findShare_35 (by decide) rfl (q := 37) rfl ?_
  obtain ⟨o14, hlo14, h⟩ := bindS h
  refine J_pick [2, 3, 1, 0] rfl ?_
  refine tX0_findShare_w37 ha0 ha1 hlo14 ?_
  · intro so14 qo14
    rw [qo14] at h
    try dsimp only [Sum.elim_inl, Sum.elim_inr] at h
    refine J_iconst (x := 0) dX0_findShare_79 (by decide) (q := 80) rfl ?_
    refine J_istore (lv' := [(4, .int 0), (0, .ref a0)]) dX0_findShare_80 (by decide) rfl (q := 82) rfl ?_
    refine J_iconst (x := 1) dX0_findShare_82 (by decide) (q := 83) rfl ?_
    refine J_istore (lv' := [(5, .int 1), (4, .int 0), (0, .ref a0)]) dX0_findShare_83 (by decide) rfl (q := 85) rfl ?_
    obtain ⟨o26, hlo26, h⟩ := bindS h
    refine J_pick [2, 1, 0] rfl ?_
    refine tX0_findShare_w85 ha0 hlo26 ?_
    · intro vo26 so26 qo26
      rw [qo26] at h
      try dsimp only [Sum.elim_inl, Sum.elim_inr] at h
      have h := Option.some.inj h
      subst h
      rfl

def fX0_shareLoss (a0 : Nat) (a1 : Int32) (σ : Mm) : Option (Int32) :=
  if a1 < 0 then some (-1) else (gR σ a0 3).bind fun r2 => if (nI (ln r2)) ≤ a1 then some (-1) else if ixB a1 (ln r2) = true then some (gI σ r2 (Int32.toNatClampNeg a1)) else none
set_option maxRecDepth 20000 in
set_option maxHeartbeats 2000000 in
theorem tX0_shareLoss {X : XS} {n : Nat} {σ : Mm} {a0 : Nat} {a1 : Int32} (ha0 : RT n a0 100) {res : Int32} (h : fX0_shareLoss a0 a1 σ = some res) : MT X yX0_shareLoss mX0_shareLoss 1 0 0 [.ref a0, .int a1] n σ (n, some (.int res), σ) := by
  unfold fX0_shareLoss at h
  refine MT_of (by decide +kernel) rfl (fun h => by cases h) (Nat.le_of_ble_eq_true rfl) ?_
  show J X mX0_shareLoss 1 0 0 (n, some (.int res), σ) 0 [(0, .ref a0), (1, .int a1)] [] n σ
  refine J_iload_n (z := 1) dX0_shareLoss_0 rfl rfl (q := 1) rfl ?_
  refine J_if_lt (tgt := 22) dX0_shareLoss_1 (by decide) (q := 4) rfl (fun c0 => ?_) (fun c0 => ?_)
  · rw [if_pos c0] at h
    refine J_iconst (x := (-1)) dX0_shareLoss_22 (by decide) (q := 23) rfl ?_
    have h := Option.some.inj h
    subst h
    exact J_ireturn dX0_shareLoss_23 rfl rfl rfl
  · rw [if_neg c0] at h
    refine J_iload_n (z := 1) dX0_shareLoss_4 rfl rfl (q := 5) rfl ?_
    refine J_aload_n (z := 0) dX0_shareLoss_5 rfl rfl (q := 6) rfl ?_
    obtain ⟨r2, er2, h⟩ := bindS h
    refine J_getR dX0_shareLoss_6 lRX0_17 ha0 rfl (by decide) er2 (q := 9) rfl (fun fr2 => ?_)
    refine J_alen (t := 0) dX0_shareLoss_9 fr2 (by decide) rfl (q := 10) rfl ?_
    refine J_icmp_ge (tgt := 22) dX0_shareLoss_10 (by decide) (q := 13) rfl (fun c2 => ?_) (fun c2 => ?_)
    · rw [if_pos c2] at h
      refine J_iconst (x := (-1)) dX0_shareLoss_22 (by decide) (q := 23) rfl ?_
      have h := Option.some.inj h
      subst h
      exact J_ireturn dX0_shareLoss_23 rfl rfl rfl
    · rw [if_neg c2] at h
      refine J_aload_n (z := 0) dX0_shareLoss_13 rfl rfl (q := 14) rfl ?_
      refine J_getR dX0_shareLoss_14 lRX0_17 ha0 rfl (by decide) er2 (q := 17) rfl (fun _ => ?_)
      refine J_iload_n (z := 1) dX0_shareLoss_17 rfl rfl (q := 18) rfl ?_
      obtain ⟨g4, h⟩ := iteS h
      refine J_iald dX0_shareLoss_18 fr2 (ixB_ok g4) (q := 19) rfl ?_
      refine J_goto (tgt := 23) dX0_shareLoss_19 (by decide) ?_
      have h := Option.some.inj h
      subst h
      exact J_ireturn dX0_shareLoss_23 rfl rfl rfl

def fX6_pagesKnownBy_b26 (a0 : Nat) (a1 : Int32) (a2 : Int32) (a3 : Int32) (σ : Mm) : Option ((Int32 × Int32) ⊕ (Int32)) :=
  some (Sum.inl (a2, (a3 + 1)))
set_option maxRecDepth 20000 in
set_option maxHeartbeats 2000000 in
theorem tX6_pagesKnownBy_b26 {X : XS} {n : Nat} {σ : Mm} {F : Nat × Option Value × Mm} {a0 : Nat} {a1 : Int32} {a2 : Int32} {a3 : Int32} (ha0 : RT n a0 106) {res : (Int32 × Int32) ⊕ (Int32)} (h : fX6_pagesKnownBy_b26 a0 a1 a2 a3 σ = some res) (hc : ∀ (b2 : Int32) (b3 : Int32), res = .inl (b2, b3) → J X mX6_pagesKnownBy 3 0 0 F 4 [(0, .ref a0), (1, .int a1), (2, .int b2), (3, .int b3)] [] n σ) (hr : ∀ (v : Int32), res = .inr v → F = (n, some (.int v), σ)) : J X mX6_pagesKnownBy 3 0 0 F 26 [(0, .ref a0), (1, .int a1), (2, .int a2), (3, .int a3)] [] n σ := by
  unfold fX6_pagesKnownBy_b26 at h
  refine J_iinc (z := 3) (y := (a3 + 1)) (lv' := [(3, .int (a3 + 1)), (0, .ref a0), (1, .int a1), (2, .int a2)]) dX6_pagesKnownBy_26 rfl rfl (by decide) rfl (q := 29) rfl ?_
  refine J_goto (tgt := 4) dX6_pagesKnownBy_29 (by decide) ?_
  have h := Option.some.inj h
  refine J_pick [1, 2, 3, 0] rfl ?_
  exact hc _ _ h.symm

def fX6_pagesKnownBy_l4 (a0 : Nat) (a1 : Int32) (a2 : Int32) (a3 : Int32) (σ : Mm) : Option ((Int32 × Int32) ⊕ (Int32)) :=
  if 12 ≤ a3 then some (Sum.inr a2) else (fX6_recall a0 a1 a3 σ).bind fun vk2 => if vk2 = (-1) then fX6_pagesKnownBy_b26 a0 a1 a2 a3 σ else fX6_pagesKnownBy_b26 a0 a1 (a2 ||| (shlI 1 a3)) a3 σ
set_option maxRecDepth 20000 in
set_option maxHeartbeats 2000000 in
theorem tX6_pagesKnownBy_l4 {X : XS} {n : Nat} {σ : Mm} {F : Nat × Option Value × Mm} {a0 : Nat} {a1 : Int32} {a2 : Int32} {a3 : Int32} (ha0 : RT n a0 106) {res : (Int32 × Int32) ⊕ (Int32)} (h : fX6_pagesKnownBy_l4 a0 a1 a2 a3 σ = some res) (hc : ∀ (b2 : Int32) (b3 : Int32), res = .inl (b2, b3) → J X mX6_pagesKnownBy 3 0 0 F 4 [(0, .ref a0), (1, .int a1), (2, .int b2), (3, .int b3)] [] n σ) (hr : ∀ (v : Int32), res = .inr v → F = (n, some (.int v), σ)) : J X mX6_pagesKnownBy 3 0 0 F 4 [(0, .ref a0), (1, .int a1), (2, .int a2), (3, .int a3)] [] n σ := by
  unfold fX6_pagesKnownBy_l4 at h
  refine J_iload_n (z := 3) dX6_pagesKnownBy_4 rfl rfl (q := 5) rfl ?_
  refine J_bipush (x := 12) dX6_pagesKnownBy_5 (by decide) (q := 7) rfl ?_
  refine J_icmp_ge (tgt := 32) dX6_pagesKnownBy_7 (by decide) (q := 10) rfl (fun c0 => ?_) (fun c0 => ?_)
  · rw [if_pos c0] at h
    refine J_iload_n (z := 2) dX6_pagesKnownBy_32 rfl rfl (q := 33) rfl ?_
    have h := Option.some.inj h
    exact J_ireturn dX6_pagesKnownBy_33 rfl rfl (hr _ h.symm)
  · rw [if_neg c0] at h
    refine J_aload_n (z := 0) dX6_pagesKnownBy_10 rfl rfl (q := 11) rfl ?_
    refine J_iload_n (z := 1) dX6_pagesKnownBy_11 rfl rfl (q := 12) rfl ?_
    refine J_iload_n (z := 3) dX6_pagesKnownBy_12 rfl rfl (q := 13) rfl ?_
    obtain ⟨vk2, hk2, h⟩ := bindS h
    refine J_cVi (as := [.int a1, .int a3]) dX6_pagesKnownBy_13 mRX6_73 ha0 (tX6_recall ha0 hk2) rfl (Nat.le_of_ble_eq_true rfl) (Nat.le_of_ble_eq_true rfl) (Nat.le_of_ble_eq_true rfl) (q := 16) rfl ?_
    intro bk2
    refine J_iconst (x := (-1)) dX6_pagesKnownBy_16 (by decide) (q := 17) rfl ?_
    refine J_icmp_eq (tgt := 26) dX6_pagesKnownBy_17 (by decide) (q := 20) rfl (fun c2 => ?_) (fun c2 => ?_)
    · rw [if_pos c2] at h
      refine J_pick [0, 1, 2, 3] rfl ?_
      exact tX6_pagesKnownBy_b26 ha0 h hc hr
    · rw [if_neg c2] at h
      refine J_iload_n (z := 2) dX6_pagesKnownBy_20 rfl rfl (q := 21) rfl ?_
      refine J_iconst (x := 1) dX6_pagesKnownBy_21 (by decide) (q := 22) rfl ?_
      refine J_iload_n (z := 3) dX6_pagesKnownBy_22 rfl rfl (q := 23) rfl ?_
      refine J_ishl dX6_pagesKnownBy_23  (q := 24) rfl ?_
      refine J_ior dX6_pagesKnownBy_24  (q := 25) rfl ?_
      refine J_istore_n (lv' := [(2, .int (a2 ||| (shlI 1 a3))), (0, .ref a0), (1, .int a1), (3, .int a3)]) dX6_pagesKnownBy_25 rfl (by decide) rfl (q := 26) rfl ?_
      refine J_pick [1, 2, 0, 3] rfl ?_
      exact tX6_pagesKnownBy_b26 ha0 h hc hr

def fX6_pagesKnownBy_w4 (a0 : Nat) (a1 : Int32) (a2 : Int32) (a3 : Int32) (σ : Mm) : Option (Int32) :=
  wh (fun a : Int32 × Int32 => fX6_pagesKnownBy_l4 a0 a1 a.1 a.2 σ) BIG (a2, a3)
set_option maxRecDepth 20000 in
set_option maxHeartbeats 2000000 in
theorem tX6_pagesKnownBy_w4 {X : XS} {n : Nat} {σ : Mm} {F : Nat × Option Value × Mm} {a0 : Nat} {a1 : Int32} {a2 : Int32} {a3 : Int32} (ha0 : RT n a0 106) {res : Int32} (h : fX6_pagesKnownBy_w4 a0 a1 a2 a3 σ = some res) (hr : ∀ (v : Int32), res = v → F = (n, some (.int v), σ)) : J X mX6_pagesKnownBy 3 0 0 F 4 [(0, .ref a0), (1, .int a1), (2, .int a2), (3, .int a3)] [] n σ := by
  unfold fX6_pagesKnownBy_w4 at h
  refine wh_rule (P := fun a : Int32 × Int32 => J X mX6_pagesKnownBy 3 0 0 F 4 [(0, .ref a0), (1, .int a1), (2, .int a.1), (3, .int a.2)] [] n σ) (K := fun b => b = res) ?_ _ _ _ h rfl
  intro a
  refine ⟨fun a2 hb hP => ?_, fun b hb hK => ?_⟩
  · exact tX6_pagesKnownBy_l4 ha0 hb (fun _ _ e => by cases e; exact hP) (fun _ e => by cases e)
  · subst hK
    exact tX6_pagesKnownBy_l4 ha0 hb (fun _ _ e => by cases e) (fun v0 e => hr v0 (Sum.inr.inj e))

def fX6_pagesKnownBy (a0 : Nat) (a1 : Int32) (σ : Mm) : Option (Int32) :=
  (fX6_pagesKnownBy_w4 a0 a1 0 0 σ).bind (fun o4 => some o4)
set_option maxRecDepth 20000 in
set_option maxHeartbeats 2000000 in
theorem tX6_pagesKnownBy {X : XS} {n : Nat} {σ : Mm} {a0 : Nat} {a1 : Int32} (ha0 : RT n a0 106) {res : Int32} (h : fX6_pagesKnownBy a0 a1 σ = some res) : MT X yX6_pagesKnownBy mX6_pagesKnownBy 3 0 0 [.ref a0, .int a1] n σ (n, some (.int res), σ) := by
  unfold fX6_pagesKnownBy at h
  refine MT_of (by decide +kernel) rfl (fun h => by cases h) (Nat.le_of_ble_eq_true rfl) ?_
  show J X mX6_pagesKnownBy 3 0 0 (n, some (.int res), σ) 0 [(0, .ref a0), (1, .int a1)] [] n σ
  refine J_iconst (x := 0) dX6_pagesKnownBy_0 (by decide) (q := 1) rfl ?_
  refine J_istore_n (lv' := [(2, .int 0), (0, .ref a0), (1, .int a1)]) dX6_pagesKnownBy_1 rfl (by decide) rfl (q := 2) rfl ?_
  refine J_iconst (x := 0) dX6_pagesKnownBy_2 (by decide) (q := 3) rfl ?_
  refine J_istore_n (lv' := [(3, .int 0), (2, .int 0), (0, .ref a0), (1, .int a1)]) dX6_pagesKnownBy_3 rfl (by decide) rfl (q := 4) rfl ?_
  obtain ⟨o4, hlo4, h⟩ := bindS h
  refine J_pick [2, 3, 1, 0] rfl ?_
  refine tX6_pagesKnownBy_w4 ha0 hlo4 ?_
  · intro vo4 qo4
    rw [qo4] at h
    try dsimp only [Sum.elim_inl, Sum.elim_inr] at h
    have h := Option.some.inj h
    subst h
    rfl

def fX0_knownBySet_b36 (a0 : Nat) (a1 : Nat) (a2 : Int32) (a3 : Int32) (a4 : Int32) (σ : Mm) : Option ((Int32 × Int32) ⊕ (Int32)) :=
  some (Sum.inl (a3, (a4 + 1)))
set_option maxRecDepth 20000 in
set_option maxHeartbeats 2000000 in
theorem tX0_knownBySet_b36 {X : XS} {n : Nat} {σ : Mm} {F : Nat × Option Value × Mm} {a0 : Nat} {a1 : Nat} {a2 : Int32} {a3 : Int32} {a4 : Int32} (ha0 : RT n a0 100) (ha1 : RT n a1 106) {res : (Int32 × Int32) ⊕ (Int32)} (h : fX0_knownBySet_b36 a0 a1 a2 a3 a4 σ = some res) (hc : ∀ (b3 : Int32) (b4 : Int32), res = .inl (b3, b4) → J X mX0_knownBySet 4 0 0 F 5 [(0, .ref a0), (1, .ref a1), (2, .int a2), (3, .int b3), (4, .int b4)] [] n σ) (hr : ∀ (v : Int32), res = .inr v → F = (n, some (.int v), σ)) : J X mX0_knownBySet 4 0 0 F 36 [(0, .ref a0), (1, .ref a1), (2, .int a2), (3, .int a3), (4, .int a4)] [] n σ := by
  unfold fX0_knownBySet_b36 at h
  refine J_iinc (z := 4) (y := (a4 + 1)) (lv' := [(4, .int (a4 + 1)), (0, .ref a0), (1, .ref a1), (2, .int a2), (3, .int a3)]) dX0_knownBySet_36 rfl rfl (by decide) rfl (q := 39) rfl ?_
  refine J_goto (tgt := 5) dX0_knownBySet_39 (by decide) ?_
  have h := Option.some.inj h
  refine J_pick [1, 2, 3, 4, 0] rfl ?_
  exact hc _ _ h.symm

def fX0_knownBySet_l5 (a0 : Nat) (a1 : Nat) (a2 : Int32) (a3 : Int32) (a4 : Int32) (σ : Mm) : Option ((Int32 × Int32) ⊕ (Int32)) :=
  (gR σ a0 0).bind fun r1 => if (gI σ r1 5) ≤ a4 then some (Sum.inr a3) else if ((shrI a2 a4) &&& 1) = 1 then (fX6_pagesKnownBy a1 a4 σ).bind fun vk4 => fX0_knownBySet_b36 a0 a1 a2 (a3 ||| vk4) a4 σ else fX0_knownBySet_b36 a0 a1 a2 a3 a4 σ
set_option maxRecDepth 20000 in
set_option maxHeartbeats 2000000 in
theorem tX0_knownBySet_l5 {X : XS} {n : Nat} {σ : Mm} {F : Nat × Option Value × Mm} {a0 : Nat} {a1 : Nat} {a2 : Int32} {a3 : Int32} {a4 : Int32} (ha0 : RT n a0 100) (ha1 : RT n a1 106) {res : (Int32 × Int32) ⊕ (Int32)} (h : fX0_knownBySet_l5 a0 a1 a2 a3 a4 σ = some res) (hc : ∀ (b3 : Int32) (b4 : Int32), res = .inl (b3, b4) → J X mX0_knownBySet 4 0 0 F 5 [(0, .ref a0), (1, .ref a1), (2, .int a2), (3, .int b3), (4, .int b4)] [] n σ) (hr : ∀ (v : Int32), res = .inr v → F = (n, some (.int v), σ)) : J X mX0_knownBySet 4 0 0 F 5 [(0, .ref a0), (1, .ref a1), (2, .int a2), (3, .int a3), (4, .int a4)] [] n σ := by
  unfold fX0_knownBySet_l5 at h
  refine J_iload (z := 4) dX0_knownBySet_5 rfl (q := 7) rfl ?_
  refine J_aload_n (z := 0) dX0_knownBySet_7 rfl rfl (q := 8) rfl ?_
  obtain ⟨r1, er1, h⟩ := bindS h
  refine J_getR dX0_knownBySet_8 lRX0_28 ha0 rfl (by decide) er1 (q := 11) rfl (fun fr1 => ?_)
  refine J_getI dX0_knownBySet_11 lRX0_115 fr1 rfl (q := 14) rfl ?_
  refine J_icmp_ge (tgt := 42) dX0_knownBySet_14 (by decide) (q := 17) rfl (fun c1 => ?_) (fun c1 => ?_)
  · rw [if_pos c1] at h
    refine J_iload_n (z := 3) dX0_knownBySet_42 rfl rfl (q := 43) rfl ?_
    have h := Option.some.inj h
    exact J_ireturn dX0_knownBySet_43 rfl rfl (hr _ h.symm)
  · rw [if_neg c1] at h
    refine J_iload_n (z := 2) dX0_knownBySet_17 rfl rfl (q := 18) rfl ?_
    refine J_iload (z := 4) dX0_knownBySet_18 rfl (q := 20) rfl ?_
    refine J_ishr dX0_knownBySet_20  (q := 21) rfl ?_
    refine J_iconst (x := 1) dX0_knownBySet_21 (by decide) (q := 22) rfl ?_
    refine J_iand dX0_knownBySet_22  (q := 23) rfl ?_
    refine J_iconst (x := 1) dX0_knownBySet_23 (by decide) (q := 24) rfl ?_
    refine J_icmp_ne (tgt := 36) dX0_knownBySet_24 (by decide) (q := 27) rfl (fun c2 => ?_) (fun c2 => ?_)
    · rw [if_neg c2] at h
      refine J_pick [0, 1, 2, 3, 4] rfl ?_
      exact tX0_knownBySet_b36 ha0 ha1 h hc hr
    · rw [if_pos c2] at h
      refine J_iload_n (z := 3) dX0_knownBySet_27 rfl rfl (q := 28) rfl ?_
      refine J_aload_n (z := 1) dX0_knownBySet_28 rfl rfl (q := 29) rfl ?_
      refine J_iload (z := 4) dX0_knownBySet_29 rfl (q := 31) rfl ?_
      obtain ⟨vk4, hk4, h⟩ := bindS h
      refine J_cVi (as := [.int a4]) dX0_knownBySet_31 mRX0_122 ha1 (tX6_pagesKnownBy ha1 hk4) rfl (Nat.le_of_ble_eq_true rfl) (Nat.le_of_ble_eq_true rfl) (Nat.le_of_ble_eq_true rfl) (q := 34) rfl ?_
      intro bk4
      refine J_ior dX0_knownBySet_34  (q := 35) rfl ?_
      refine J_istore_n (lv' := [(3, .int (a3 ||| vk4)), (0, .ref a0), (1, .ref a1), (2, .int a2), (4, .int a4)]) dX0_knownBySet_35 rfl (by decide) rfl (q := 36) rfl ?_
      refine J_pick [1, 2, 3, 0, 4] rfl ?_
      exact tX0_knownBySet_b36 ha0 ha1 h hc hr

def fX0_knownBySet_w5 (a0 : Nat) (a1 : Nat) (a2 : Int32) (a3 : Int32) (a4 : Int32) (σ : Mm) : Option (Int32) :=
  wh (fun a : Int32 × Int32 => fX0_knownBySet_l5 a0 a1 a2 a.1 a.2 σ) BIG (a3, a4)
set_option maxRecDepth 20000 in
set_option maxHeartbeats 2000000 in
theorem tX0_knownBySet_w5 {X : XS} {n : Nat} {σ : Mm} {F : Nat × Option Value × Mm} {a0 : Nat} {a1 : Nat} {a2 : Int32} {a3 : Int32} {a4 : Int32} (ha0 : RT n a0 100) (ha1 : RT n a1 106) {res : Int32} (h : fX0_knownBySet_w5 a0 a1 a2 a3 a4 σ = some res) (hr : ∀ (v : Int32), res = v → F = (n, some (.int v), σ)) : J X mX0_knownBySet 4 0 0 F 5 [(0, .ref a0), (1, .ref a1), (2, .int a2), (3, .int a3), (4, .int a4)] [] n σ := by
  unfold fX0_knownBySet_w5 at h
  refine wh_rule (P := fun a : Int32 × Int32 => J X mX0_knownBySet 4 0 0 F 5 [(0, .ref a0), (1, .ref a1), (2, .int a2), (3, .int a.1), (4, .int a.2)] [] n σ) (K := fun b => b = res) ?_ _ _ _ h rfl
  intro a
  refine ⟨fun a2 hb hP => ?_, fun b hb hK => ?_⟩
  · exact tX0_knownBySet_l5 ha0 ha1 hb (fun _ _ e => by cases e; exact hP) (fun _ e => by cases e)
  · subst hK
    exact tX0_knownBySet_l5 ha0 ha1 hb (fun _ _ e => by cases e) (fun v0 e => hr v0 (Sum.inr.inj e))

def fX0_knownBySet (a0 : Nat) (a1 : Nat) (a2 : Int32) (σ : Mm) : Option (Int32) :=
  (fX0_knownBySet_w5 a0 a1 a2 0 0 σ).bind (fun o5 => some o5)
set_option maxRecDepth 20000 in
set_option maxHeartbeats 2000000 in
theorem tX0_knownBySet {X : XS} {n : Nat} {σ : Mm} {a0 : Nat} {a1 : Nat} {a2 : Int32} (ha0 : RT n a0 100) (ha1 : RT n a1 106) {res : Int32} (h : fX0_knownBySet a0 a1 a2 σ = some res) : MT X yX0_knownBySet mX0_knownBySet 4 0 0 [.ref a0, .ref a1, .int a2] n σ (n, some (.int res), σ) := by
  unfold fX0_knownBySet at h
  refine MT_of (by decide +kernel) rfl (fun h => by cases h) (Nat.le_of_ble_eq_true rfl) ?_
  show J X mX0_knownBySet 4 0 0 (n, some (.int res), σ) 0 [(0, .ref a0), (1, .ref a1), (2, .int a2)] [] n σ
  refine J_iconst (x := 0) dX0_knownBySet_0 (by decide) (q := 1) rfl ?_
  refine J_istore_n (lv' := [(3, .int 0), (0, .ref a0), (1, .ref a1), (2, .int a2)]) dX0_knownBySet_1 rfl (by decide) rfl (q := 2) rfl ?_
  refine J_iconst (x := 0) dX0_knownBySet_2 (by decide) (q := 3) rfl ?_
  refine J_istore (lv' := [(4, .int 0), (3, .int 0), (0, .ref a0), (1, .ref a1), (2, .int a2)]) dX0_knownBySet_3 (by decide) rfl (q := 5) rfl ?_
  obtain ⟨o5, hlo5, h⟩ := bindS h
  refine J_pick [2, 3, 4, 1, 0] rfl ?_
  refine tX0_knownBySet_w5 ha0 ha1 hlo5 ?_
  · intro vo5 qo5
    rw [qo5] at h
    try dsimp only [Sum.elim_inl, Sum.elim_inr] at h
    have h := Option.some.inj h
    subst h
    rfl

def fX0_fewestWhoKnow_b78 (a0 : Nat) (a1 : Nat) (a3 : Int32) (a4 : Int32) (a5 : Int32) (σ : Mm) : Option ((Int32 × Int32) ⊕ (Int32)) :=
  some (Sum.inl (a4, (a5 + 1)))
set_option maxRecDepth 20000 in
set_option maxHeartbeats 2000000 in
theorem tX0_fewestWhoKnow_b78 {X : XS} {n : Nat} {σ : Mm} {F : Nat × Option Value × Mm} {a0 : Nat} {a1 : Nat} {a3 : Int32} {a4 : Int32} {a5 : Int32} (ha0 : RT n a0 100) (ha1 : RT n a1 106) {res : (Int32 × Int32) ⊕ (Int32)} (h : fX0_fewestWhoKnow_b78 a0 a1 a3 a4 a5 σ = some res) (hc : ∀ (b4 : Int32) (b5 : Int32), res = .inl (b4, b5) → J X mX0_fewestWhoKnow 5 0 0 F 15 [(0, .ref a0), (1, .ref a1), (3, .int a3), (4, .int b4), (5, .int b5)] [] n σ) (hr : ∀ (v : Int32), res = .inr v → F = (n, some (.int v), σ)) : J X mX0_fewestWhoKnow 5 0 0 F 78 [(0, .ref a0), (1, .ref a1), (3, .int a3), (4, .int a4), (5, .int a5)] [] n σ := by
  unfold fX0_fewestWhoKnow_b78 at h
  refine J_iinc (z := 4) (y := (a5 + 1)) (lv' := [(5, .int (a5 + 1)), (0, .ref a0), (1, .ref a1), (3, .int a3), (4, .int a4)]) dX0_fewestWhoKnow_78 rfl rfl (by decide) rfl (q := 81) rfl ?_
  refine J_goto (tgt := 15) dX0_fewestWhoKnow_81 (by decide) ?_
  have h := Option.some.inj h
  refine J_pick [1, 2, 3, 4, 0] rfl ?_
  exact hc _ _ h.symm

def fX0_fewestWhoKnow_b53 (a0 : Nat) (a1 : Nat) (a3 : Int32) (a4 : Int32) (a5 : Int32) (z0 : Int32) (σ : Mm) : Option ((Int32 × Int32) ⊕ (Int32)) :=
  if z0 = 0 then fX0_fewestWhoKnow_b78 a0 a1 a3 a4 a5 σ else (fX0_knownBySet a0 a1 a5 σ).bind fun vk7 => if (a3 &&& (vk7 ^^^ (-1))) = 0 then fX0_fewestWhoKnow_b78 a0 a1 a3 a5 a5 σ else fX0_fewestWhoKnow_b78 a0 a1 a3 a4 a5 σ
set_option maxRecDepth 20000 in
set_option maxHeartbeats 2000000 in
theorem tX0_fewestWhoKnow_b53 {X : XS} {n : Nat} {σ : Mm} {F : Nat × Option Value × Mm} {a0 : Nat} {a1 : Nat} {a3 : Int32} {a4 : Int32} {a5 : Int32} {z0 : Int32} (ha0 : RT n a0 100) (ha1 : RT n a1 106) {res : (Int32 × Int32) ⊕ (Int32)} (h : fX0_fewestWhoKnow_b53 a0 a1 a3 a4 a5 z0 σ = some res) (hc : ∀ (b4 : Int32) (b5 : Int32), res = .inl (b4, b5) → J X mX0_fewestWhoKnow 5 0 0 F 15 [(0, .ref a0), (1, .ref a1), (3, .int a3), (4, .int b4), (5, .int b5)] [] n σ) (hr : ∀ (v : Int32), res = .inr v → F = (n, some (.int v), σ)) : J X mX0_fewestWhoKnow 5 0 0 F 53 [(0, .ref a0), (1, .ref a1), (3, .int a3), (4, .int a4), (5, .int a5)] [.int z0] n σ := by
  unfold fX0_fewestWhoKnow_b53 at h
  refine J_istore (lv' := [(6, .int z0), (0, .ref a0), (1, .ref a1), (3, .int a3), (4, .int a4), (5, .int a5)]) dX0_fewestWhoKnow_53 (by decide) rfl (q := 55) rfl ?_
  refine J_iload (z := 0) dX0_fewestWhoKnow_55 rfl (q := 57) rfl ?_
  refine J_if_eq (tgt := 78) dX0_fewestWhoKnow_57 (by decide) (q := 60) rfl (fun c5 => ?_) (fun c5 => ?_)
  · rw [if_pos c5] at h
    refine J_pick [1, 2, 3, 4, 5] rfl ?_
    exact tX0_fewestWhoKnow_b78 ha0 ha1 h hc hr
  · rw [if_neg c5] at h
    refine J_iload_n (z := 3) dX0_fewestWhoKnow_60 rfl rfl (q := 61) rfl ?_
    refine J_aload_n (z := 1) dX0_fewestWhoKnow_61 rfl rfl (q := 62) rfl ?_
    refine J_aload_n (z := 2) dX0_fewestWhoKnow_62 rfl rfl (q := 63) rfl ?_
    refine J_iload (z := 5) dX0_fewestWhoKnow_63 rfl (q := 65) rfl ?_
    obtain ⟨vk7, hk7, h⟩ := bindS h
    refine J_cVi (as := [.ref a1, .int a5]) dX0_fewestWhoKnow_65 mRX0_118 ha0 (tX0_knownBySet ha0 ha1 hk7) rfl (Nat.le_of_ble_eq_true rfl) (Nat.le_of_ble_eq_true rfl) (Nat.le_of_ble_eq_true rfl) (q := 68) rfl ?_
    intro bk7
    refine J_iconst (x := (-1)) dX0_fewestWhoKnow_68 (by decide) (q := 69) rfl ?_
    refine J_ixor dX0_fewestWhoKnow_69  (q := 70) rfl ?_
    refine J_iand dX0_fewestWhoKnow_70  (q := 71) rfl ?_
    refine J_if_ne (tgt := 78) dX0_fewestWhoKnow_71 (by decide) (q := 74) rfl (fun c7 => ?_) (fun c7 => ?_)
    · rw [if_neg c7] at h
      refine J_pick [1, 2, 3, 4, 5] rfl ?_
      exact tX0_fewestWhoKnow_b78 ha0 ha1 h hc hr
    · rw [if_pos c7] at h
      refine J_iload (z := 5) dX0_fewestWhoKnow_74 rfl (q := 76) rfl ?_
      refine J_istore (lv' := [(4, .int a5), (6, .int z0), (0, .ref a0), (1, .ref a1), (3, .int a3), (5, .int a5)]) dX0_fewestWhoKnow_76 (by decide) rfl (q := 78) rfl ?_
      refine J_pick [2, 3, 4, 0, 5] rfl ?_
      exact tX0_fewestWhoKnow_b78 ha0 ha1 h hc hr

def fX0_fewestWhoKnow_b48 (a0 : Nat) (a1 : Nat) (a3 : Int32) (a4 : Int32) (a5 : Int32) (σ : Mm) : Option ((Int32 × Int32) ⊕ (Int32)) :=
  fX0_fewestWhoKnow_b53 a0 a1 a3 a4 a5 1 σ
set_option maxRecDepth 20000 in
set_option maxHeartbeats 2000000 in
theorem tX0_fewestWhoKnow_b48 {X : XS} {n : Nat} {σ : Mm} {F : Nat × Option Value × Mm} {a0 : Nat} {a1 : Nat} {a3 : Int32} {a4 : Int32} {a5 : Int32} (ha0 : RT n a0 100) (ha1 : RT n a1 106) {res : (Int32 × Int32) ⊕ (Int32)} (h : fX0_fewestWhoKnow_b48 a0 a1 a3 a4 a5 σ = some res) (hc : ∀ (b4 : Int32) (b5 : Int32), res = .inl (b4, b5) → J X mX0_fewestWhoKnow 5 0 0 F 15 [(0, .ref a0), (1, .ref a1), (3, .int a3), (4, .int b4), (5, .int b5)] [] n σ) (hr : ∀ (v : Int32), res = .inr v → F = (n, some (.int v), σ)) : J X mX0_fewestWhoKnow 5 0 0 F 48 [(0, .ref a0), (1, .ref a1), (3, .int a3), (4, .int a4), (5, .int a5)] [] n σ := by
  unfold fX0_fewestWhoKnow_b48 at h
  refine J_iconst (x := 1) dX0_fewestWhoKnow_48 (by decide) (q := 49) rfl ?_
  refine J_goto (tgt := 53) dX0_fewestWhoKnow_49 (by decide) ?_
  refine J_pick [0, 1, 2, 3, 4] rfl ?_
  exact tX0_fewestWhoKnow_b53 ha0 ha1 h hc hr

def fX0_fewestWhoKnow_l15 (a0 : Nat) (a1 : Nat) (a3 : Int32) (a4 : Int32) (a5 : Int32) (σ : Mm) : Option ((Int32 × Int32) ⊕ (Int32)) :=
  (gR σ a0 0).bind fun r3 => if (shlI 1 (gI σ r3 5)) ≤ a5 then some (Sum.inr a4) else if a4 = (-1) then fX0_fewestWhoKnow_b48 a0 a1 a3 a4 a5 σ else (fJ6_bitCount_0f7a4 a5 σ).bind fun vk9 => (fJ6_bitCount_0f7a4 a4 σ).bind fun vk10 => if vk10 ≤ vk9 then fX0_fewestWhoKnow_b53 a0 a1 a3 a4 a5 0 σ else fX0_fewestWhoKnow_b48 a0 a1 a3 a4 a5 σ
set_option maxRecDepth 20000 in
set_option maxHeartbeats 2000000 in
theorem tX0_fewestWhoKnow_l15 {X : XS} {n : Nat} {σ : Mm} {F : Nat × Option Value × Mm} {a0 : Nat} {a1 : Nat} {a3 : Int32} {a4 : Int32} {a5 : Int32} (ha0 : RT n a0 100) (ha1 : RT n a1 106) {res : (Int32 × Int32) ⊕ (Int32)} (h : fX0_fewestWhoKnow_l15 a0 a1 a3 a4 a5 σ = some res) (hc : ∀ (b4 : Int32) (b5 : Int32), res = .inl (b4, b5) → J X mX0_fewestWhoKnow 5 0 0 F 15 [(0, .ref a0), (1, .ref a1), (3, .int a3), (4, .int b4), (5, .int b5)] [] n σ) (hr : ∀ (v : Int32), res = .inr v → F = (n, some (.int v), σ)) : J X mX0_fewestWhoKnow 5 0 0 F 15 [(0, .ref a0), (1, .ref a1), (3, .int a3), (4, .int a4), (5, .int a5)] [] n σ := by
  unfold fX0_fewestWhoKnow_l15 at h
  refine J_iload (z := 4) dX0_fewestWhoKnow_15 rfl (q := 17) rfl ?_
  refine J_iconst (x := 1) dX0_fewestWhoKnow_17 (by decide) (q := 18) rfl ?_
  refine J_aload_n (z := 0) dX0_fewestWhoKnow_18 rfl rfl (q := 19) rfl ?_
  obtain ⟨r3, er3, h⟩ := bindS h
  refine J_getR dX0_fewestWhoKnow_19 lRX0_28 ha0 rfl (by decide) er3 (q := 22) rfl (fun fr3 => ?_)
  refine J_getI dX0_fewestWhoKnow_22 lRX0_115 fr3 rfl (q := 25) rfl ?_
  refine J_ishl dX0_fewestWhoKnow_25  (q := 26) rfl ?_
  refine J_icmp_ge (tgt := 84) dX0_fewestWhoKnow_26 (by decide) (q := 29) rfl (fun c3 => ?_) (fun c3 => ?_)
  · rw [if_pos c3] at h
    refine J_iload (z := 3) dX0_fewestWhoKnow_84 rfl (q := 86) rfl ?_
    have h := Option.some.inj h
    exact J_ireturn dX0_fewestWhoKnow_86 rfl rfl (hr _ h.symm)
  · rw [if_neg c3] at h
    refine J_iload (z := 3) dX0_fewestWhoKnow_29 rfl (q := 31) rfl ?_
    refine J_iconst (x := (-1)) dX0_fewestWhoKnow_31 (by decide) (q := 32) rfl ?_
    refine J_icmp_eq (tgt := 48) dX0_fewestWhoKnow_32 (by decide) (q := 35) rfl (fun c4 => ?_) (fun c4 => ?_)
    · rw [if_pos c4] at h
      refine J_pick [0, 1, 2, 3, 4] rfl ?_
      exact tX0_fewestWhoKnow_b48 ha0 ha1 h hc hr
    · rw [if_neg c4] at h
      refine J_iload (z := 4) dX0_fewestWhoKnow_35 rfl (q := 37) rfl ?_
      obtain ⟨vk9, hk9, h⟩ := bindS h
      refine J_cSi (as := [.int a5]) dX0_fewestWhoKnow_37 mRX0_49 (tJ6_bitCount_0f7a4  hk9) rfl (Nat.le_of_ble_eq_true rfl) (Nat.le_of_ble_eq_true rfl) (Nat.le_of_ble_eq_true rfl) (q := 40) rfl ?_
      intro bk9
      refine J_iload (z := 3) dX0_fewestWhoKnow_40 rfl (q := 42) rfl ?_
      obtain ⟨vk10, hk10, h⟩ := bindS h
      refine J_cSi (as := [.int a4]) dX0_fewestWhoKnow_42 mRX0_49 (tJ6_bitCount_0f7a4  hk10) rfl (Nat.le_of_ble_eq_true rfl) (Nat.le_of_ble_eq_true rfl) (Nat.le_of_ble_eq_true rfl) (q := 45) rfl ?_
      intro bk10
      refine J_icmp_ge (tgt := 52) dX0_fewestWhoKnow_45 (by decide) (q := 48) rfl (fun c10 => ?_) (fun c10 => ?_)
      · rw [if_pos c10] at h
        refine J_iconst (x := 0) dX0_fewestWhoKnow_52 (by decide) (q := 53) rfl ?_
        refine J_pick [0, 1, 2, 3, 4] rfl ?_
        exact tX0_fewestWhoKnow_b53 ha0 ha1 h hc hr
      · rw [if_neg c10] at h
        refine J_pick [0, 1, 2, 3, 4] rfl ?_
        exact tX0_fewestWhoKnow_b48 ha0 ha1 h hc hr

def fX0_fewestWhoKnow_w15 (a0 : Nat) (a1 : Nat) (a3 : Int32) (a4 : Int32) (a5 : Int32) (σ : Mm) : Option (Int32) :=
  wh (fun a : Int32 × Int32 => fX0_fewestWhoKnow_l15 a0 a1 a3 a.1 a.2 σ) BIG (a4, a5)
set_option maxRecDepth 20000 in
set_option maxHeartbeats 2000000 in
theorem tX0_fewestWhoKnow_w15 {X : XS} {n : Nat} {σ : Mm} {F : Nat × Option Value × Mm} {a0 : Nat} {a1 : Nat} {a3 : Int32} {a4 : Int32} {a5 : Int32} (ha0 : RT n a0 100) (ha1 : RT n a1 106) {res : Int32} (h : fX0_fewestWhoKnow_w15 a0 a1 a3 a4 a5 σ = some res) (hr : ∀ (v : Int32), res = v → F = (n, some (.int v), σ)) : J X mX0_fewestWhoKnow 5 0 0 F 15 [(0, .ref a0), (1, .ref a1), (3, .int a3), (4, .int a4), (5, .int a5)] [] n σ := by
  unfold fX0_fewestWhoKnow_w15 at h
  refine wh_rule (P := fun a : Int32 × Int32 => J X mX0_fewestWhoKnow 5 0 0 F 15 [(0, .ref a0), (1, .ref a1), (3, .int a3), (4, .int a.1), (5, .int a.2)] [] n σ) (K := fun b => b = res) ?_ _ _ _ h rfl
  intro a
  refine ⟨fun a2 hb hP => ?_, fun b hb hK => ?_⟩
  · exact tX0_fewestWhoKnow_l15 ha0 ha1 hb (fun _ _ e => by cases e; exact hP) (fun _ e => by cases e)
  · subst hK
    exact tX0_fewestWhoKnow_l15 ha0 ha1 hb (fun _ _ e => by cases e) (fun v0 e => hr v0 (Sum.inr.inj e))

def fX0_fewestWhoKnow (a0 : Nat) (a1 : Nat) (a2 : Int32) (σ : Mm) : Option (Int32) :=
  (gR σ a0 0).bind fun r1 => (fX1_pagesOf r1 a2 σ).bind fun vk2 => (fX0_fewestWhoKnow_w15 a0 a1 vk2 (-1) 0 σ).bind (fun o12 => some o12)
set_option maxRecDepth 20000 in
set_option maxHeartbeats 2000000 in
theorem tX0_fewestWhoKnow {X : XS} {n : Nat} {σ : Mm} {a0 : Nat} {a1 : Nat} {a2 : Int32} (ha0 : RT n a0 100) (ha1 : RT n a1 106) {res : Int32} (h : fX0_fewestWhoKnow a0 a1 a2 σ = some res) : MT X yX0_fewestWhoKnow mX0_fewestWhoKnow 5 0 0 [.ref a0, .ref a1, .int a2] n σ (n, some (.int res), σ) := by
  unfold fX0_fewestWhoKnow at h
  refine MT_of (by decide +kernel) rfl (fun h => by cases h) (Nat.le_of_ble_eq_true rfl) ?_
  show J X mX0_fewestWhoKnow 5 0 0 (n, some (.int res), σ) 0 [(0, .ref a0), (1, .ref a1), (2, .int a2)] [] n σ
  refine J_aload_n (z := 0) dX0_fewestWhoKnow_0 rfl rfl (q := 1) rfl ?_
  obtain ⟨r1, er1, h⟩ := bindS h
  refine J_getR dX0_fewestWhoKnow_1 lRX0_28 ha0 rfl (by decide) er1 (q := 4) rfl (fun fr1 => ?_)
  refine J_iload_n (z := 2) dX0_fewestWhoKnow_4 rfl rfl (q := 5) rfl ?_
  obtain ⟨vk2, hk2, h⟩ := bindS h
  refine J_cVi (as := [.int a2]) dX0_fewestWhoKnow_5 mRX0_43 fr1 (tX1_pagesOf fr1 hk2) rfl (Nat.le_of_ble_eq_true rfl) (Nat.le_of_ble_eq_true rfl) (Nat.le_of_ble_eq_true rfl) (q := 8) rfl ?_
  intro bk2
  refine J_istore_n (lv' := [(3, .int vk2), (0, .ref a0), (1, .ref a1), (2, .int a2)]) dX0_fewestWhoKnow_8 rfl (by decide) rfl (q := 9) rfl ?_
  refine J_iconst (x := (-1)) dX0_fewestWhoKnow_9 (by decide) (q := 10) rfl ?_
  refine J_istore (lv' := [(4, .int (-1)), (3, .int vk2), (0, .ref a0), (1, .ref a1), (2, .int a2)]) dX0_fewestWhoKnow_10 (by decide) rfl (q := 12) rfl ?_
  refine J_iconst (x := 0) dX0_fewestWhoKnow_12 (by decide) (q := 13) rfl ?_
  refine J_istore (lv' := [(5, .int 0), (4, .int (-1)), (3, .int vk2), (0, .ref a0), (1, .ref a1), (2, .int a2)]) dX0_fewestWhoKnow_13 (by decide) rfl (q := 15) rfl ?_
  obtain ⟨o12, hlo12, h⟩ := bindS h
  refine J_pick [3, 4, 2, 1, 0] rfl ?_
  refine tX0_fewestWhoKnow_w15 ha0 ha1 hlo12 ?_
  · intro vo12 qo12
    rw [qo12] at h
    try dsimp only [Sum.elim_inl, Sum.elim_inr] at h
    have h := Option.some.inj h
    subst h
    rfl

def fX0_stepsToOthers_b73 (a0 : Nat) (a1 : Nat) (a2 : Int32) (a3 : Int32) (a4 : Int32) (a5 : Int32) (σ : Mm) : Option ((Int32 × Int32) ⊕ (Int32)) :=
  some (Sum.inl (a4, (a5 + 1)))
set_option maxRecDepth 20000 in
set_option maxHeartbeats 2000000 in
theorem tX0_stepsToOthers_b73 {X : XS} {n : Nat} {σ : Mm} {F : Nat × Option Value × Mm} {a0 : Nat} {a1 : Nat} {a2 : Int32} {a3 : Int32} {a4 : Int32} {a5 : Int32} (ha0 : RT n a0 100) (ha1 : RT n a1 106) {res : (Int32 × Int32) ⊕ (Int32)} (h : fX0_stepsToOthers_b73 a0 a1 a2 a3 a4 a5 σ = some res) (hc : ∀ (b4 : Int32) (b5 : Int32), res = .inl (b4, b5) → J X mX0_stepsToOthers 3 0 0 F 6 [(0, .ref a0), (1, .ref a1), (2, .int a2), (3, .int a3), (4, .int b4), (5, .int b5)] [] n σ) (hr : ∀ (v : Int32), res = .inr v → F = (n, some (.int v), σ)) : J X mX0_stepsToOthers 3 0 0 F 73 [(0, .ref a0), (1, .ref a1), (2, .int a2), (3, .int a3), (4, .int a4), (5, .int a5)] [] n σ := by
  unfold fX0_stepsToOthers_b73 at h
  refine J_iinc (z := 5) (y := (a5 + 1)) (lv' := [(5, .int (a5 + 1)), (0, .ref a0), (1, .ref a1), (2, .int a2), (3, .int a3), (4, .int a4)]) dX0_stepsToOthers_73 rfl rfl (by decide) rfl (q := 76) rfl ?_
  refine J_goto (tgt := 6) dX0_stepsToOthers_76 (by decide) ?_
  have h := Option.some.inj h
  refine J_pick [1, 2, 3, 4, 5, 0] rfl ?_
  exact hc _ _ h.symm

def fX0_stepsToOthers_b71 (a0 : Nat) (a1 : Nat) (a2 : Int32) (a3 : Int32) (a5 : Int32) (z0 : Int32) (σ : Mm) : Option ((Int32 × Int32) ⊕ (Int32)) :=
  fX0_stepsToOthers_b73 a0 a1 a2 a3 z0 a5 σ
set_option maxRecDepth 20000 in
set_option maxHeartbeats 2000000 in
theorem tX0_stepsToOthers_b71 {X : XS} {n : Nat} {σ : Mm} {F : Nat × Option Value × Mm} {a0 : Nat} {a1 : Nat} {a2 : Int32} {a3 : Int32} {a5 : Int32} {z0 : Int32} (ha0 : RT n a0 100) (ha1 : RT n a1 106) {res : (Int32 × Int32) ⊕ (Int32)} (h : fX0_stepsToOthers_b71 a0 a1 a2 a3 a5 z0 σ = some res) (hc : ∀ (b4 : Int32) (b5 : Int32), res = .inl (b4, b5) → J X mX0_stepsToOthers 3 0 0 F 6 [(0, .ref a0), (1, .ref a1), (2, .int a2), (3, .int a3), (4, .int b4), (5, .int b5)] [] n σ) (hr : ∀ (v : Int32), res = .inr v → F = (n, some (.int v), σ)) : J X mX0_stepsToOthers 3 0 0 F 71 [(0, .ref a0), (1, .ref a1), (2, .int a2), (3, .int a3), (5, .int a5)] [.int z0] n σ := by
  unfold fX0_stepsToOthers_b71 at h
  refine J_istore (lv' := [(4, .int z0), (0, .ref a0), (1, .ref a1), (2, .int a2), (3, .int a3), (5, .int a5)]) dX0_stepsToOthers_71 (by decide) rfl (q := 73) rfl ?_
  refine J_pick [1, 2, 3, 4, 0, 5] rfl ?_
  exact tX0_stepsToOthers_b73 ha0 ha1 h hc hr

def fX0_stepsToOthers_l6 (a0 : Nat) (a1 : Nat) (a2 : Int32) (a3 : Int32) (a4 : Int32) (a5 : Int32) (σ : Mm) : Option ((Int32 × Int32) ⊕ (Int32)) :=
  (gR σ a0 0).bind fun r1 => if (gI σ r1 4) ≤ a5 then some (Sum.inr a4) else if a5 = a2 then fX0_stepsToOthers_b73 a0 a1 a2 a3 a4 a5 σ else (gR σ a1 0).bind fun r4 => if ixB a5 (ln r4) = true then if (gI σ r4 (Int32.toNatClampNeg a5)) ≤ 0 then fX0_stepsToOthers_b73 a0 a1 a2 a3 a4 a5 σ else (fX1_pageCell r1 a5 σ).bind fun vk7 => (fX1_steps r1 a3 vk7 σ).bind fun vk8 => if a4 = (-1) then fX0_stepsToOthers_b71 a0 a1 a2 a3 a5 vk8 σ else fX0_stepsToOthers_b71 a0 a1 a2 a3 a5 (minI a4 vk8) σ else none
set_option maxRecDepth 20000 in
set_option maxHeartbeats 2000000 in
theorem tX0_stepsToOthers_l6 {X : XS} {n : Nat} {σ : Mm} {F : Nat × Option Value × Mm} {a0 : Nat} {a1 : Nat} {a2 : Int32} {a3 : Int32} {a4 : Int32} {a5 : Int32} (ha0 : RT n a0 100) (ha1 : RT n a1 106) {res : (Int32 × Int32) ⊕ (Int32)} (h : fX0_stepsToOthers_l6 a0 a1 a2 a3 a4 a5 σ = some res) (hc : ∀ (b4 : Int32) (b5 : Int32), res = .inl (b4, b5) → J X mX0_stepsToOthers 3 0 0 F 6 [(0, .ref a0), (1, .ref a1), (2, .int a2), (3, .int a3), (4, .int b4), (5, .int b5)] [] n σ) (hr : ∀ (v : Int32), res = .inr v → F = (n, some (.int v), σ)) : J X mX0_stepsToOthers 3 0 0 F 6 [(0, .ref a0), (1, .ref a1), (2, .int a2), (3, .int a3), (4, .int a4), (5, .int a5)] [] n σ := by
  unfold fX0_stepsToOthers_l6 at h
  refine J_iload (z := 5) dX0_stepsToOthers_6 rfl (q := 8) rfl ?_
  refine J_aload_n (z := 0) dX0_stepsToOthers_8 rfl rfl (q := 9) rfl ?_
  obtain ⟨r1, er1, h⟩ := bindS h
  refine J_getR dX0_stepsToOthers_9 lRX0_28 ha0 rfl (by decide) er1 (q := 12) rfl (fun fr1 => ?_)
  refine J_getI dX0_stepsToOthers_12 lRX0_76 fr1 rfl (q := 15) rfl ?_
  refine J_icmp_ge (tgt := 79) dX0_stepsToOthers_15 (by decide) (q := 18) rfl (fun c1 => ?_) (fun c1 => ?_)
  · rw [if_pos c1] at h
    refine J_iload (z := 4) dX0_stepsToOthers_79 rfl (q := 81) rfl ?_
    have h := Option.some.inj h
    exact J_ireturn dX0_stepsToOthers_81 rfl rfl (hr _ h.symm)
  · rw [if_neg c1] at h
    refine J_iload (z := 5) dX0_stepsToOthers_18 rfl (q := 20) rfl ?_
    refine J_iload_n (z := 2) dX0_stepsToOthers_20 rfl rfl (q := 21) rfl ?_
    refine J_icmp_eq (tgt := 73) dX0_stepsToOthers_21 (by decide) (q := 24) rfl (fun c2 => ?_) (fun c2 => ?_)
    · rw [if_pos c2] at h
      refine J_pick [0, 1, 2, 3, 4, 5] rfl ?_
      exact tX0_stepsToOthers_b73 ha0 ha1 h hc hr
    · rw [if_neg c2] at h
      refine J_aload_n (z := 1) dX0_stepsToOthers_24 rfl rfl (q := 25) rfl ?_
      obtain ⟨r4, er4, h⟩ := bindS h
      refine J_getR dX0_stepsToOthers_25 lRX0_125 ha1 rfl (by decide) er4 (q := 28) rfl (fun fr4 => ?_)
      refine J_iload (z := 5) dX0_stepsToOthers_28 rfl (q := 30) rfl ?_
      obtain ⟨g5, h⟩ := iteS h
      refine J_iald dX0_stepsToOthers_30 fr4 (ixB_ok g5) (q := 31) rfl ?_
      refine J_if_le (tgt := 73) dX0_stepsToOthers_31 (by decide) (q := 34) rfl (fun c5 => ?_) (fun c5 => ?_)
      · rw [if_pos c5] at h
        refine J_pick [0, 1, 2, 3, 4, 5] rfl ?_
        exact tX0_stepsToOthers_b73 ha0 ha1 h hc hr
      · rw [if_neg c5] at h
        refine J_aload_n (z := 0) dX0_stepsToOthers_34 rfl rfl (q := 35) rfl ?_
        refine J_getR dX0_stepsToOthers_35 lRX0_28 ha0 rfl (by decide) er1 (q := 38) rfl (fun _ => ?_)
        refine J_iload_n (z := 3) dX0_stepsToOthers_38 rfl rfl (q := 39) rfl ?_
        refine J_aload_n (z := 0) dX0_stepsToOthers_39 rfl rfl (q := 40) rfl ?_
        refine J_getR dX0_stepsToOthers_40 lRX0_28 ha0 rfl (by decide) er1 (q := 43) rfl (fun _ => ?_)
        refine J_iload (z := 5) dX0_stepsToOthers_43 rfl (q := 45) rfl ?_
        obtain ⟨vk7, hk7, h⟩ := bindS h
        refine J_cVi (as := [.int a5]) dX0_stepsToOthers_45 mRX0_94 fr1 (tX1_pageCell fr1 hk7) rfl (Nat.le_of_ble_eq_true rfl) (Nat.le_of_ble_eq_true rfl) (Nat.le_of_ble_eq_true rfl) (q := 48) rfl ?_
        intro bk7
        obtain ⟨vk8, hk8, h⟩ := bindS h
        refine J_cVi (as := [.int a3, .int vk7]) dX0_stepsToOthers_48 mRX0_128 fr1 (tX1_steps fr1 hk8) rfl (Nat.le_of_ble_eq_true rfl) (Nat.le_of_ble_eq_true rfl) (Nat.le_of_ble_eq_true rfl) (q := 51) rfl ?_
        intro bk8
        refine J_istore (lv' := [(6, .int vk8), (0, .ref a0), (1, .ref a1), (2, .int a2), (3, .int a3), (4, .int a4), (5, .int a5)]) dX0_stepsToOthers_51 (by decide) rfl (q := 53) rfl ?_
        refine J_iload (z := 5) dX0_stepsToOthers_53 rfl (q := 55) rfl ?_
        refine J_iconst (x := (-1)) dX0_stepsToOthers_55 (by decide) (q := 56) rfl ?_
        refine J_icmp_ne (tgt := 64) dX0_stepsToOthers_56 (by decide) (q := 59) rfl (fun c8 => ?_) (fun c8 => ?_)
        · rw [if_neg c8] at h
          refine J_iload (z := 5) dX0_stepsToOthers_64 rfl (q := 66) rfl ?_
          refine J_iload (z := 0) dX0_stepsToOthers_66 rfl (q := 68) rfl ?_
          refine J_mmin dX0_stepsToOthers_68 pRX0_109 q_static_mmin q_init_math q_code_mmin (Nat.le_of_ble_eq_true rfl) (Nat.le_of_ble_eq_true rfl) (q := 71) rfl ?_
          refine J_pick [1, 2, 3, 4, 6] rfl ?_
          exact tX0_stepsToOthers_b71 ha0 ha1 h hc hr
        · rw [if_pos c8] at h
          refine J_iload (z := 0) dX0_stepsToOthers_59 rfl (q := 61) rfl ?_
          refine J_goto (tgt := 71) dX0_stepsToOthers_61 (by decide) ?_
          refine J_pick [1, 2, 3, 4, 6] rfl ?_
          exact tX0_stepsToOthers_b71 ha0 ha1 h hc hr

def fX0_stepsToOthers_w6 (a0 : Nat) (a1 : Nat) (a2 : Int32) (a3 : Int32) (a4 : Int32) (a5 : Int32) (σ : Mm) : Option (Int32) :=
  wh (fun a : Int32 × Int32 => fX0_stepsToOthers_l6 a0 a1 a2 a3 a.1 a.2 σ) BIG (a4, a5)
set_option maxRecDepth 20000 in
set_option maxHeartbeats 2000000 in
theorem tX0_stepsToOthers_w6 {X : XS} {n : Nat} {σ : Mm} {F : Nat × Option Value × Mm} {a0 : Nat} {a1 : Nat} {a2 : Int32} {a3 : Int32} {a4 : Int32} {a5 : Int32} (ha0 : RT n a0 100) (ha1 : RT n a1 106) {res : Int32} (h : fX0_stepsToOthers_w6 a0 a1 a2 a3 a4 a5 σ = some res) (hr : ∀ (v : Int32), res = v → F = (n, some (.int v), σ)) : J X mX0_stepsToOthers 3 0 0 F 6 [(0, .ref a0), (1, .ref a1), (2, .int a2), (3, .int a3), (4, .int a4), (5, .int a5)] [] n σ := by
  unfold fX0_stepsToOthers_w6 at h
  refine wh_rule (P := fun a : Int32 × Int32 => J X mX0_stepsToOthers 3 0 0 F 6 [(0, .ref a0), (1, .ref a1), (2, .int a2), (3, .int a3), (4, .int a.1), (5, .int a.2)] [] n σ) (K := fun b => b = res) ?_ _ _ _ h rfl
  intro a
  refine ⟨fun a2 hb hP => ?_, fun b hb hK => ?_⟩
  · exact tX0_stepsToOthers_l6 ha0 ha1 hb (fun _ _ e => by cases e; exact hP) (fun _ e => by cases e)
  · subst hK
    exact tX0_stepsToOthers_l6 ha0 ha1 hb (fun _ _ e => by cases e) (fun v0 e => hr v0 (Sum.inr.inj e))

def fX0_stepsToOthers (a0 : Nat) (a1 : Nat) (a2 : Int32) (a3 : Int32) (σ : Mm) : Option (Int32) :=
  (fX0_stepsToOthers_w6 a0 a1 a2 a3 (-1) 0 σ).bind (fun o10 => some o10)
set_option maxRecDepth 20000 in
set_option maxHeartbeats 2000000 in
theorem tX0_stepsToOthers {X : XS} {n : Nat} {σ : Mm} {a0 : Nat} {a1 : Nat} {a2 : Int32} {a3 : Int32} (ha0 : RT n a0 100) (ha1 : RT n a1 106) {res : Int32} (h : fX0_stepsToOthers a0 a1 a2 a3 σ = some res) : MT X yX0_stepsToOthers mX0_stepsToOthers 3 0 0 [.ref a0, .ref a1, .int a2, .int a3] n σ (n, some (.int res), σ) := by
  unfold fX0_stepsToOthers at h
  refine MT_of (by decide +kernel) rfl (fun h => by cases h) (Nat.le_of_ble_eq_true rfl) ?_
  show J X mX0_stepsToOthers 3 0 0 (n, some (.int res), σ) 0 [(0, .ref a0), (1, .ref a1), (2, .int a2), (3, .int a3)] [] n σ
  refine J_iconst (x := (-1)) dX0_stepsToOthers_0 (by decide) (q := 1) rfl ?_
  refine J_istore (lv' := [(4, .int (-1)), (0, .ref a0), (1, .ref a1), (2, .int a2), (3, .int a3)]) dX0_stepsToOthers_1 (by decide) rfl (q := 3) rfl ?_
  refine J_iconst (x := 0) dX0_stepsToOthers_3 (by decide) (q := 4) rfl ?_
  refine J_istore (lv' := [(5, .int 0), (4, .int (-1)), (0, .ref a0), (1, .ref a1), (2, .int a2), (3, .int a3)]) dX0_stepsToOthers_4 (by decide) rfl (q := 6) rfl ?_
  obtain ⟨o10, hlo10, h⟩ := bindS h
  refine J_pick [2, 3, 4, 5, 1, 0] rfl ?_
  refine tX0_stepsToOthers_w6 ha0 ha1 hlo10 ?_
  · intro vo10 qo10
    rw [qo10] at h
    try dsimp only [Sum.elim_inl, Sum.elim_inr] at h
    have h := Option.some.inj h
    subst h
    rfl

def fX0_knowers_b31 (a0 : Nat) (a1 : Nat) (a2 : Int32) (a3 : Int32) (a4 : Int32) (σ : Mm) : Option ((Int32 × Int32) ⊕ (Int32)) :=
  some (Sum.inl (a3, (a4 + 1)))
set_option maxRecDepth 20000 in
set_option maxHeartbeats 2000000 in
theorem tX0_knowers_b31 {X : XS} {n : Nat} {σ : Mm} {F : Nat × Option Value × Mm} {a0 : Nat} {a1 : Nat} {a2 : Int32} {a3 : Int32} {a4 : Int32} (ha0 : RT n a0 100) (ha1 : RT n a1 106) {res : (Int32 × Int32) ⊕ (Int32)} (h : fX0_knowers_b31 a0 a1 a2 a3 a4 σ = some res) (hc : ∀ (b3 : Int32) (b4 : Int32), res = .inl (b3, b4) → J X mX0_knowers 3 0 0 F 5 [(0, .ref a0), (1, .ref a1), (2, .int a2), (3, .int b3), (4, .int b4)] [] n σ) (hr : ∀ (v : Int32), res = .inr v → F = (n, some (.int v), σ)) : J X mX0_knowers 3 0 0 F 31 [(0, .ref a0), (1, .ref a1), (2, .int a2), (3, .int a3), (4, .int a4)] [] n σ := by
  unfold fX0_knowers_b31 at h
  refine J_iinc (z := 4) (y := (a4 + 1)) (lv' := [(4, .int (a4 + 1)), (0, .ref a0), (1, .ref a1), (2, .int a2), (3, .int a3)]) dX0_knowers_31 rfl rfl (by decide) rfl (q := 34) rfl ?_
  refine J_goto (tgt := 5) dX0_knowers_34 (by decide) ?_
  have h := Option.some.inj h
  refine J_pick [1, 2, 3, 4, 0] rfl ?_
  exact hc _ _ h.symm

def fX0_knowers_l5 (a0 : Nat) (a1 : Nat) (a2 : Int32) (a3 : Int32) (a4 : Int32) (σ : Mm) : Option ((Int32 × Int32) ⊕ (Int32)) :=
  (gR σ a0 0).bind fun r1 => if (gI σ r1 5) ≤ a4 then some (Sum.inr a3) else (fX6_recall a1 a4 a2 σ).bind fun vk3 => if vk3 = (-1) then fX0_knowers_b31 a0 a1 a2 a3 a4 σ else fX0_knowers_b31 a0 a1 a2 (a3 + 1) a4 σ
set_option maxRecDepth 20000 in
set_option maxHeartbeats 2000000 in
theorem tX0_knowers_l5 {X : XS} {n : Nat} {σ : Mm} {F : Nat × Option Value × Mm} {a0 : Nat} {a1 : Nat} {a2 : Int32} {a3 : Int32} {a4 : Int32} (ha0 : RT n a0 100) (ha1 : RT n a1 106) {res : (Int32 × Int32) ⊕ (Int32)} (h : fX0_knowers_l5 a0 a1 a2 a3 a4 σ = some res) (hc : ∀ (b3 : Int32) (b4 : Int32), res = .inl (b3, b4) → J X mX0_knowers 3 0 0 F 5 [(0, .ref a0), (1, .ref a1), (2, .int a2), (3, .int b3), (4, .int b4)] [] n σ) (hr : ∀ (v : Int32), res = .inr v → F = (n, some (.int v), σ)) : J X mX0_knowers 3 0 0 F 5 [(0, .ref a0), (1, .ref a1), (2, .int a2), (3, .int a3), (4, .int a4)] [] n σ := by
  unfold fX0_knowers_l5 at h
  refine J_iload (z := 4) dX0_knowers_5 rfl (q := 7) rfl ?_
  refine J_aload_n (z := 0) dX0_knowers_7 rfl rfl (q := 8) rfl ?_
  obtain ⟨r1, er1, h⟩ := bindS h
  refine J_getR dX0_knowers_8 lRX0_28 ha0 rfl (by decide) er1 (q := 11) rfl (fun fr1 => ?_)
  refine J_getI dX0_knowers_11 lRX0_115 fr1 rfl (q := 14) rfl ?_
  refine J_icmp_ge (tgt := 37) dX0_knowers_14 (by decide) (q := 17) rfl (fun c1 => ?_) (fun c1 => ?_)
  · rw [if_pos c1] at h
    refine J_iload_n (z := 3) dX0_knowers_37 rfl rfl (q := 38) rfl ?_
    have h := Option.some.inj h
    exact J_ireturn dX0_knowers_38 rfl rfl (hr _ h.symm)
  · rw [if_neg c1] at h
    refine J_aload_n (z := 1) dX0_knowers_17 rfl rfl (q := 18) rfl ?_
    refine J_iload (z := 4) dX0_knowers_18 rfl (q := 20) rfl ?_
    refine J_iload_n (z := 2) dX0_knowers_20 rfl rfl (q := 21) rfl ?_
    obtain ⟨vk3, hk3, h⟩ := bindS h
    refine J_cVi (as := [.int a4, .int a2]) dX0_knowers_21 mRX0_131 ha1 (tX6_recall ha1 hk3) rfl (Nat.le_of_ble_eq_true rfl) (Nat.le_of_ble_eq_true rfl) (Nat.le_of_ble_eq_true rfl) (q := 24) rfl ?_
    intro bk3
    refine J_iconst (x := (-1)) dX0_knowers_24 (by decide) (q := 25) rfl ?_
    refine J_icmp_eq (tgt := 31) dX0_knowers_25 (by decide) (q := 28) rfl (fun c3 => ?_) (fun c3 => ?_)
    · rw [if_pos c3] at h
      refine J_pick [0, 1, 2, 3, 4] rfl ?_
      exact tX0_knowers_b31 ha0 ha1 h hc hr
    · rw [if_neg c3] at h
      refine J_iinc (z := 3) (y := (a3 + 1)) (lv' := [(3, .int (a3 + 1)), (0, .ref a0), (1, .ref a1), (2, .int a2), (4, .int a4)]) dX0_knowers_28 rfl rfl (by decide) rfl (q := 31) rfl ?_
      refine J_pick [1, 2, 3, 0, 4] rfl ?_
      exact tX0_knowers_b31 ha0 ha1 h hc hr

def fX0_knowers_w5 (a0 : Nat) (a1 : Nat) (a2 : Int32) (a3 : Int32) (a4 : Int32) (σ : Mm) : Option (Int32) :=
  wh (fun a : Int32 × Int32 => fX0_knowers_l5 a0 a1 a2 a.1 a.2 σ) BIG (a3, a4)
set_option maxRecDepth 20000 in
set_option maxHeartbeats 2000000 in
theorem tX0_knowers_w5 {X : XS} {n : Nat} {σ : Mm} {F : Nat × Option Value × Mm} {a0 : Nat} {a1 : Nat} {a2 : Int32} {a3 : Int32} {a4 : Int32} (ha0 : RT n a0 100) (ha1 : RT n a1 106) {res : Int32} (h : fX0_knowers_w5 a0 a1 a2 a3 a4 σ = some res) (hr : ∀ (v : Int32), res = v → F = (n, some (.int v), σ)) : J X mX0_knowers 3 0 0 F 5 [(0, .ref a0), (1, .ref a1), (2, .int a2), (3, .int a3), (4, .int a4)] [] n σ := by
  unfold fX0_knowers_w5 at h
  refine wh_rule (P := fun a : Int32 × Int32 => J X mX0_knowers 3 0 0 F 5 [(0, .ref a0), (1, .ref a1), (2, .int a2), (3, .int a.1), (4, .int a.2)] [] n σ) (K := fun b => b = res) ?_ _ _ _ h rfl
  intro a
  refine ⟨fun a2 hb hP => ?_, fun b hb hK => ?_⟩
  · exact tX0_knowers_l5 ha0 ha1 hb (fun _ _ e => by cases e; exact hP) (fun _ e => by cases e)
  · subst hK
    exact tX0_knowers_l5 ha0 ha1 hb (fun _ _ e => by cases e) (fun v0 e => hr v0 (Sum.inr.inj e))

def fX0_knowers (a0 : Nat) (a1 : Nat) (a2 : Int32) (σ : Mm) : Option (Int32) :=
  (fX0_knowers_w5 a0 a1 a2 0 0 σ).bind (fun o5 => some o5)
set_option maxRecDepth 20000 in
set_option maxHeartbeats 2000000 in
theorem tX0_knowers {X : XS} {n : Nat} {σ : Mm} {a0 : Nat} {a1 : Nat} {a2 : Int32} (ha0 : RT n a0 100) (ha1 : RT n a1 106) {res : Int32} (h : fX0_knowers a0 a1 a2 σ = some res) : MT X yX0_knowers mX0_knowers 3 0 0 [.ref a0, .ref a1, .int a2] n σ (n, some (.int res), σ) := by
  unfold fX0_knowers at h
  refine MT_of (by decide +kernel) rfl (fun h => by cases h) (Nat.le_of_ble_eq_true rfl) ?_
  show J X mX0_knowers 3 0 0 (n, some (.int res), σ) 0 [(0, .ref a0), (1, .ref a1), (2, .int a2)] [] n σ
  refine J_iconst (x := 0) dX0_knowers_0 (by decide) (q := 1) rfl ?_
  refine J_istore_n (lv' := [(3, .int 0), (0, .ref a0), (1, .ref a1), (2, .int a2)]) dX0_knowers_1 rfl (by decide) rfl (q := 2) rfl ?_
  refine J_iconst (x := 0) dX0_knowers_2 (by decide) (q := 3) rfl ?_
  refine J_istore (lv' := [(4, .int 0), (3, .int 0), (0, .ref a0), (1, .ref a1), (2, .int a2)]) dX0_knowers_3 (by decide) rfl (q := 5) rfl ?_
  obtain ⟨o5, hlo5, h⟩ := bindS h
  refine J_pick [2, 3, 4, 1, 0] rfl ?_
  refine tX0_knowers_w5 ha0 ha1 hlo5 ?_
  · intro vo5 qo5
    rw [qo5] at h
    try dsimp only [Sum.elim_inl, Sum.elim_inr] at h
    have h := Option.some.inj h
    subst h
    rfl

def fX0_isSplit_b57 (a0 : Nat) (a1 : Nat) (a2 : Int32) (a4 : Int32) (z0 : Int32) (σ : Mm) : Option ((Int32 × Int32) ⊕ (Int32)) :=
  some (Sum.inl (z0, (a4 + 1)))
set_option maxRecDepth 20000 in
set_option maxHeartbeats 2000000 in
theorem tX0_isSplit_b57 {X : XS} {n : Nat} {σ : Mm} {F : Nat × Option Value × Mm} {a0 : Nat} {a1 : Nat} {a2 : Int32} {a4 : Int32} {z0 : Int32} (ha0 : RT n a0 100) (ha1 : RT n a1 106) {res : (Int32 × Int32) ⊕ (Int32)} (h : fX0_isSplit_b57 a0 a1 a2 a4 z0 σ = some res) (hc : ∀ (b3 : Int32) (b4 : Int32), res = .inl (b3, b4) → J X mX0_isSplit 3 0 0 F 5 [(0, .ref a0), (1, .ref a1), (2, .int a2), (3, .int b3), (4, .int b4)] [] n σ) (hr : ∀ (v : Int32), res = .inr v → F = (n, some (.int v), σ)) : J X mX0_isSplit 3 0 0 F 57 [(0, .ref a0), (1, .ref a1), (2, .int a2), (4, .int a4)] [.int z0] n σ := by
  unfold fX0_isSplit_b57 at h
  refine J_istore_n (lv' := [(3, .int z0), (0, .ref a0), (1, .ref a1), (2, .int a2), (4, .int a4)]) dX0_isSplit_57 rfl (by decide) rfl (q := 58) rfl ?_
  refine J_iinc (z := 4) (y := (a4 + 1)) (lv' := [(4, .int (a4 + 1)), (3, .int z0), (0, .ref a0), (1, .ref a1), (2, .int a2)]) dX0_isSplit_58 rfl rfl (by decide) rfl (q := 61) rfl ?_
  refine J_goto (tgt := 5) dX0_isSplit_61 (by decide) ?_
  have h := Option.some.inj h
  refine J_pick [2, 3, 4, 1, 0] rfl ?_
  exact hc _ _ h.symm

def fX0_isSplit_b45 (a0 : Nat) (a1 : Nat) (a2 : Int32) (a3 : Int32) (a4 : Int32) (a5 : Int32) (σ : Mm) : Option ((Int32 × Int32) ⊕ (Int32)) :=
  if a5 = (-1) then fX0_isSplit_b57 a0 a1 a2 a4 a3 σ else fX0_isSplit_b57 a0 a1 a2 a4 a5 σ
set_option maxRecDepth 20000 in
set_option maxHeartbeats 2000000 in
theorem tX0_isSplit_b45 {X : XS} {n : Nat} {σ : Mm} {F : Nat × Option Value × Mm} {a0 : Nat} {a1 : Nat} {a2 : Int32} {a3 : Int32} {a4 : Int32} {a5 : Int32} (ha0 : RT n a0 100) (ha1 : RT n a1 106) {res : (Int32 × Int32) ⊕ (Int32)} (h : fX0_isSplit_b45 a0 a1 a2 a3 a4 a5 σ = some res) (hc : ∀ (b3 : Int32) (b4 : Int32), res = .inl (b3, b4) → J X mX0_isSplit 3 0 0 F 5 [(0, .ref a0), (1, .ref a1), (2, .int a2), (3, .int b3), (4, .int b4)] [] n σ) (hr : ∀ (v : Int32), res = .inr v → F = (n, some (.int v), σ)) : J X mX0_isSplit 3 0 0 F 45 [(0, .ref a0), (1, .ref a1), (2, .int a2), (3, .int a3), (4, .int a4), (5, .int a5)] [] n σ := by
  unfold fX0_isSplit_b45 at h
  refine J_iload (z := 5) dX0_isSplit_45 rfl (q := 47) rfl ?_
  refine J_iconst (x := (-1)) dX0_isSplit_47 (by decide) (q := 48) rfl ?_
  refine J_icmp_ne (tgt := 55) dX0_isSplit_48 (by decide) (q := 51) rfl (fun c4 => ?_) (fun c4 => ?_)
  · rw [if_neg c4] at h
    refine J_iload (z := 5) dX0_isSplit_55 rfl (q := 57) rfl ?_
    refine J_pick [0, 1, 2, 4] rfl ?_
    exact tX0_isSplit_b57 ha0 ha1 h hc hr
  · rw [if_pos c4] at h
    refine J_iload_n (z := 3) dX0_isSplit_51 rfl rfl (q := 52) rfl ?_
    refine J_goto (tgt := 57) dX0_isSplit_52 (by decide) ?_
    refine J_pick [0, 1, 2, 4] rfl ?_
    exact tX0_isSplit_b57 ha0 ha1 h hc hr

def fX0_isSplit_l5 (a0 : Nat) (a1 : Nat) (a2 : Int32) (a3 : Int32) (a4 : Int32) (σ : Mm) : Option ((Int32 × Int32) ⊕ (Int32)) :=
  (gR σ a0 0).bind fun r1 => if (gI σ r1 5) ≤ a4 then some (Sum.inr 0) else (fX6_recall a1 a4 a2 σ).bind fun vk3 => if vk3 = (-1) then fX0_isSplit_b45 a0 a1 a2 a3 a4 vk3 σ else if a3 = (-1) then fX0_isSplit_b45 a0 a1 a2 a3 a4 vk3 σ else if vk3 = a3 then fX0_isSplit_b45 a0 a1 a2 a3 a4 vk3 σ else some (Sum.inr 1)
set_option maxRecDepth 20000 in
set_option maxHeartbeats 2000000 in
theorem tX0_isSplit_l5 {X : XS} {n : Nat} {σ : Mm} {F : Nat × Option Value × Mm} {a0 : Nat} {a1 : Nat} {a2 : Int32} {a3 : Int32} {a4 : Int32} (ha0 : RT n a0 100) (ha1 : RT n a1 106) {res : (Int32 × Int32) ⊕ (Int32)} (h : fX0_isSplit_l5 a0 a1 a2 a3 a4 σ = some res) (hc : ∀ (b3 : Int32) (b4 : Int32), res = .inl (b3, b4) → J X mX0_isSplit 3 0 0 F 5 [(0, .ref a0), (1, .ref a1), (2, .int a2), (3, .int b3), (4, .int b4)] [] n σ) (hr : ∀ (v : Int32), res = .inr v → F = (n, some (.int v), σ)) : J X mX0_isSplit 3 0 0 F 5 [(0, .ref a0), (1, .ref a1), (2, .int a2), (3, .int a3), (4, .int a4)] [] n σ := by
  unfold fX0_isSplit_l5 at h
  refine J_iload (z := 4) dX0_isSplit_5 rfl (q := 7) rfl ?_
  refine J_aload_n (z := 0) dX0_isSplit_7 rfl rfl (q := 8) rfl ?_
  obtain ⟨r1, er1, h⟩ := bindS h
  refine J_getR dX0_isSplit_8 lRX0_28 ha0 rfl (by decide) er1 (q := 11) rfl (fun fr1 => ?_)
  refine J_getI dX0_isSplit_11 lRX0_115 fr1 rfl (q := 14) rfl ?_
  refine J_icmp_ge (tgt := 64) dX0_isSplit_14 (by decide) (q := 17) rfl (fun c1 => ?_) (fun c1 => ?_)
  · rw [if_pos c1] at h
    refine J_iconst (x := 0) dX0_isSplit_64 (by decide) (q := 65) rfl ?_
    have h := Option.some.inj h
    exact J_ireturn dX0_isSplit_65 rfl rfl (hr _ h.symm)
  · rw [if_neg c1] at h
    refine J_aload_n (z := 1) dX0_isSplit_17 rfl rfl (q := 18) rfl ?_
    refine J_iload (z := 4) dX0_isSplit_18 rfl (q := 20) rfl ?_
    refine J_iload_n (z := 2) dX0_isSplit_20 rfl rfl (q := 21) rfl ?_
    obtain ⟨vk3, hk3, h⟩ := bindS h
    refine J_cVi (as := [.int a4, .int a2]) dX0_isSplit_21 mRX0_131 ha1 (tX6_recall ha1 hk3) rfl (Nat.le_of_ble_eq_true rfl) (Nat.le_of_ble_eq_true rfl) (Nat.le_of_ble_eq_true rfl) (q := 24) rfl ?_
    intro bk3
    refine J_istore (lv' := [(5, .int vk3), (0, .ref a0), (1, .ref a1), (2, .int a2), (3, .int a3), (4, .int a4)]) dX0_isSplit_24 (by decide) rfl (q := 26) rfl ?_
    refine J_iload (z := 0) dX0_isSplit_26 rfl (q := 28) rfl ?_
    refine J_iconst (x := (-1)) dX0_isSplit_28 (by decide) (q := 29) rfl ?_
    refine J_icmp_eq (tgt := 45) dX0_isSplit_29 (by decide) (q := 32) rfl (fun c3 => ?_) (fun c3 => ?_)
    · rw [if_pos c3] at h
      refine J_pick [1, 2, 3, 4, 5, 0] rfl ?_
      exact tX0_isSplit_b45 ha0 ha1 h hc hr
    · rw [if_neg c3] at h
      refine J_iload_n (z := 4) dX0_isSplit_32 rfl rfl (q := 33) rfl ?_
      refine J_iconst (x := (-1)) dX0_isSplit_33 (by decide) (q := 34) rfl ?_
      refine J_icmp_eq (tgt := 45) dX0_isSplit_34 (by decide) (q := 37) rfl (fun c5 => ?_) (fun c5 => ?_)
      · rw [if_pos c5] at h
        refine J_pick [1, 2, 3, 4, 5, 0] rfl ?_
        exact tX0_isSplit_b45 ha0 ha1 h hc hr
      · rw [if_neg c5] at h
        refine J_iload (z := 0) dX0_isSplit_37 rfl (q := 39) rfl ?_
        refine J_iload_n (z := 4) dX0_isSplit_39 rfl rfl (q := 40) rfl ?_
        refine J_icmp_eq (tgt := 45) dX0_isSplit_40 (by decide) (q := 43) rfl (fun c6 => ?_) (fun c6 => ?_)
        · rw [if_pos c6] at h
          refine J_pick [1, 2, 3, 4, 5, 0] rfl ?_
          exact tX0_isSplit_b45 ha0 ha1 h hc hr
        · rw [if_neg c6] at h
          refine J_iconst (x := 1) dX0_isSplit_43 (by decide) (q := 44) rfl ?_
          have h := Option.some.inj h
          exact J_ireturn dX0_isSplit_44 rfl rfl (hr _ h.symm)

def fX0_isSplit_w5 (a0 : Nat) (a1 : Nat) (a2 : Int32) (a3 : Int32) (a4 : Int32) (σ : Mm) : Option (Int32) :=
  wh (fun a : Int32 × Int32 => fX0_isSplit_l5 a0 a1 a2 a.1 a.2 σ) BIG (a3, a4)
set_option maxRecDepth 20000 in
set_option maxHeartbeats 2000000 in
theorem tX0_isSplit_w5 {X : XS} {n : Nat} {σ : Mm} {F : Nat × Option Value × Mm} {a0 : Nat} {a1 : Nat} {a2 : Int32} {a3 : Int32} {a4 : Int32} (ha0 : RT n a0 100) (ha1 : RT n a1 106) {res : Int32} (h : fX0_isSplit_w5 a0 a1 a2 a3 a4 σ = some res) (hr : ∀ (v : Int32), res = v → F = (n, some (.int v), σ)) : J X mX0_isSplit 3 0 0 F 5 [(0, .ref a0), (1, .ref a1), (2, .int a2), (3, .int a3), (4, .int a4)] [] n σ := by
  unfold fX0_isSplit_w5 at h
  refine wh_rule (P := fun a : Int32 × Int32 => J X mX0_isSplit 3 0 0 F 5 [(0, .ref a0), (1, .ref a1), (2, .int a2), (3, .int a.1), (4, .int a.2)] [] n σ) (K := fun b => b = res) ?_ _ _ _ h rfl
  intro a
  refine ⟨fun a2 hb hP => ?_, fun b hb hK => ?_⟩
  · exact tX0_isSplit_l5 ha0 ha1 hb (fun _ _ e => by cases e; exact hP) (fun _ e => by cases e)
  · subst hK
    exact tX0_isSplit_l5 ha0 ha1 hb (fun _ _ e => by cases e) (fun v0 e => hr v0 (Sum.inr.inj e))

def fX0_isSplit (a0 : Nat) (a1 : Nat) (a2 : Int32) (σ : Mm) : Option (Int32) :=
  (fX0_isSplit_w5 a0 a1 a2 (-1) 0 σ).bind (fun o8 => some o8)
set_option maxRecDepth 20000 in
set_option maxHeartbeats 2000000 in
theorem tX0_isSplit {X : XS} {n : Nat} {σ : Mm} {a0 : Nat} {a1 : Nat} {a2 : Int32} (ha0 : RT n a0 100) (ha1 : RT n a1 106) {res : Int32} (h : fX0_isSplit a0 a1 a2 σ = some res) : MT X yX0_isSplit mX0_isSplit 3 0 0 [.ref a0, .ref a1, .int a2] n σ (n, some (.int res), σ) := by
  unfold fX0_isSplit at h
  refine MT_of (by decide +kernel) rfl (fun h => by cases h) (Nat.le_of_ble_eq_true rfl) ?_
  show J X mX0_isSplit 3 0 0 (n, some (.int res), σ) 0 [(0, .ref a0), (1, .ref a1), (2, .int a2)] [] n σ
  refine J_iconst (x := (-1)) dX0_isSplit_0 (by decide) (q := 1) rfl ?_
  refine J_istore_n (lv' := [(3, .int (-1)), (0, .ref a0), (1, .ref a1), (2, .int a2)]) dX0_isSplit_1 rfl (by decide) rfl (q := 2) rfl ?_
  refine J_iconst (x := 0) dX0_isSplit_2 (by decide) (q := 3) rfl ?_
  refine J_istore (lv' := [(4, .int 0), (3, .int (-1)), (0, .ref a0), (1, .ref a1), (2, .int a2)]) dX0_isSplit_3 (by decide) rfl (q := 5) rfl ?_
  obtain ⟨o8, hlo8, h⟩ := bindS h
  refine J_pick [2, 3, 4, 1, 0] rfl ?_
  refine tX0_isSplit_w5 ha0 ha1 hlo8 ?_
  · intro vo8 qo8
    rw [qo8] at h
    try dsimp only [Sum.elim_inl, Sum.elim_inr] at h
    have h := Option.some.inj h
    subst h
    rfl

def fX0_turn (a0 : Int32) (a1 : Int32) (σ : Mm) : Option (Int32) :=
  some (minI (absI (a0 - a1)) (10 - (absI (a0 - a1))))
set_option maxRecDepth 20000 in
set_option maxHeartbeats 2000000 in
theorem tX0_turn {X : XS} {n : Nat} {σ : Mm} {a0 : Int32} {a1 : Int32} {res : Int32} (h : fX0_turn a0 a1 σ = some res) : MT X yX0_turn mX0_turn 1 0 0 [.int a0, .int a1] n σ (n, some (.int res), σ) := by
  unfold fX0_turn at h
  refine MT_of (by decide +kernel) rfl (fun h => by cases h) (Nat.le_of_ble_eq_true rfl) ?_
  show J X mX0_turn 1 0 0 (n, some (.int res), σ) 0 [(0, .int a0), (1, .int a1)] [] n σ
  refine J_iload_n (z := 0) dX0_turn_0 rfl rfl (q := 1) rfl ?_
  refine J_iload_n (z := 1) dX0_turn_1 rfl rfl (q := 2) rfl ?_
  refine J_isub dX0_turn_2  (q := 3) rfl ?_
  refine J_mabs dX0_turn_3 pRX0_143 q_static_mabs q_init_math q_code_mabs (Nat.le_of_ble_eq_true rfl) (Nat.le_of_ble_eq_true rfl) (q := 6) rfl ?_
  refine J_istore_n (lv' := [(2, .int (absI (a0 - a1))), (0, .int a0), (1, .int a1)]) dX0_turn_6 rfl (by decide) rfl (q := 7) rfl ?_
  refine J_iload_n (z := 0) dX0_turn_7 rfl rfl (q := 8) rfl ?_
  refine J_bipush (x := 10) dX0_turn_8 (by decide) (q := 10) rfl ?_
  refine J_iload_n (z := 0) dX0_turn_10 rfl rfl (q := 11) rfl ?_
  refine J_isub dX0_turn_11  (q := 12) rfl ?_
  refine J_mmin dX0_turn_12 pRX0_109 q_static_mmin q_init_math q_code_mmin (Nat.le_of_ble_eq_true rfl) (Nat.le_of_ble_eq_true rfl) (q := 15) rfl ?_
  have h := Option.some.inj h
  subst h
  exact J_ireturn dX0_turn_15 rfl rfl rfl

def fX0_apartFrom_b80 (a0 : Nat) (a1 : Nat) (a2 : Int32) (a3 : Int32) (a5 : Int32) (z0 : Int32) (z1 : Int32) (σ : Mm) : Option ((Int32 × Int32) ⊕ (Int32)) :=
  some (Sum.inl ((z0 + z1), (a5 + 1)))
set_option maxRecDepth 20000 in
set_option maxHeartbeats 2000000 in
theorem tX0_apartFrom_b80 {X : XS} {n : Nat} {σ : Mm} {F : Nat × Option Value × Mm} {a0 : Nat} {a1 : Nat} {a2 : Int32} {a3 : Int32} {a5 : Int32} {z0 : Int32} {z1 : Int32} (ha0 : RT n a0 100) (ha1 : RT n a1 106) {res : (Int32 × Int32) ⊕ (Int32)} (h : fX0_apartFrom_b80 a0 a1 a2 a3 a5 z0 z1 σ = some res) (hc : ∀ (b4 : Int32) (b5 : Int32), res = .inl (b4, b5) → J X mX0_apartFrom 3 0 0 F 41 [(0, .ref a0), (1, .ref a1), (2, .int a2), (3, .int a3), (4, .int b4), (5, .int b5)] [] n σ) (hr : ∀ (v : Int32), res = .inr v → F = (n, some (.int v), σ)) : J X mX0_apartFrom 3 0 0 F 80 [(0, .ref a0), (1, .ref a1), (2, .int a2), (3, .int a3), (5, .int a5)] [.int z1, .int z0] n σ := by
  unfold fX0_apartFrom_b80 at h
  refine J_iadd dX0_apartFrom_80  (q := 81) rfl ?_
  refine J_istore (lv' := [(4, .int (z0 + z1)), (0, .ref a0), (1, .ref a1), (2, .int a2), (3, .int a3), (5, .int a5)]) dX0_apartFrom_81 (by decide) rfl (q := 83) rfl ?_
  refine J_iinc (z := 5) (y := (a5 + 1)) (lv' := [(5, .int (a5 + 1)), (4, .int (z0 + z1)), (0, .ref a0), (1, .ref a1), (2, .int a2), (3, .int a3)]) dX0_apartFrom_83 rfl rfl (by decide) rfl (q := 86) rfl ?_
  refine J_goto (tgt := 41) dX0_apartFrom_86 (by decide) ?_
  have h := Option.some.inj h
  refine J_pick [2, 3, 4, 5, 1, 0] rfl ?_
  exact hc _ _ h.symm

def fX0_apartFrom_l41 (a0 : Nat) (a1 : Nat) (a2 : Int32) (a3 : Int32) (a4 : Int32) (a5 : Int32) (σ : Mm) : Option ((Int32 × Int32) ⊕ (Int32)) :=
  (gR σ a0 0).bind fun r7 => if (gI σ r7 5) ≤ a5 then some (Sum.inr a4) else (fX6_recall a1 a5 a2 σ).bind fun vk9 => if vk9 = (-1) then fX0_apartFrom_b80 a0 a1 a2 a3 a5 a4 0 σ else (fX0_turn vk9 a3 σ).bind fun vk11 => fX0_apartFrom_b80 a0 a1 a2 a3 a5 a4 vk11 σ
set_option maxRecDepth 20000 in
set_option maxHeartbeats 2000000 in
theorem tX0_apartFrom_l41 {X : XS} {n : Nat} {σ : Mm} {F : Nat × Option Value × Mm} {a0 : Nat} {a1 : Nat} {a2 : Int32} {a3 : Int32} {a4 : Int32} {a5 : Int32} (ha0 : RT n a0 100) (ha1 : RT n a1 106) {res : (Int32 × Int32) ⊕ (Int32)} (h : fX0_apartFrom_l41 a0 a1 a2 a3 a4 a5 σ = some res) (hc : ∀ (b4 : Int32) (b5 : Int32), res = .inl (b4, b5) → J X mX0_apartFrom 3 0 0 F 41 [(0, .ref a0), (1, .ref a1), (2, .int a2), (3, .int a3), (4, .int b4), (5, .int b5)] [] n σ) (hr : ∀ (v : Int32), res = .inr v → F = (n, some (.int v), σ)) : J X mX0_apartFrom 3 0 0 F 41 [(0, .ref a0), (1, .ref a1), (2, .int a2), (3, .int a3), (4, .int a4), (5, .int a5)] [] n σ := by
  unfold fX0_apartFrom_l41 at h
  refine J_iload (z := 5) dX0_apartFrom_41 rfl (q := 43) rfl ?_
  refine J_aload_n (z := 0) dX0_apartFrom_43 rfl rfl (q := 44) rfl ?_
  obtain ⟨r7, er7, h⟩ := bindS h
  refine J_getR dX0_apartFrom_44 lRX0_28 ha0 rfl (by decide) er7 (q := 47) rfl (fun fr7 => ?_)
  refine J_getI dX0_apartFrom_47 lRX0_115 fr7 rfl (q := 50) rfl ?_
  refine J_icmp_ge (tgt := 89) dX0_apartFrom_50 (by decide) (q := 53) rfl (fun c7 => ?_) (fun c7 => ?_)
  · rw [if_pos c7] at h
    refine J_iload (z := 4) dX0_apartFrom_89 rfl (q := 91) rfl ?_
    have h := Option.some.inj h
    exact J_ireturn dX0_apartFrom_91 rfl rfl (hr _ h.symm)
  · rw [if_neg c7] at h
    refine J_aload_n (z := 1) dX0_apartFrom_53 rfl rfl (q := 54) rfl ?_
    refine J_iload (z := 5) dX0_apartFrom_54 rfl (q := 56) rfl ?_
    refine J_iload_n (z := 2) dX0_apartFrom_56 rfl rfl (q := 57) rfl ?_
    obtain ⟨vk9, hk9, h⟩ := bindS h
    refine J_cVi (as := [.int a5, .int a2]) dX0_apartFrom_57 mRX0_131 ha1 (tX6_recall ha1 hk9) rfl (Nat.le_of_ble_eq_true rfl) (Nat.le_of_ble_eq_true rfl) (Nat.le_of_ble_eq_true rfl) (q := 60) rfl ?_
    intro bk9
    refine J_istore (lv' := [(6, .int vk9), (0, .ref a0), (1, .ref a1), (2, .int a2), (3, .int a3), (4, .int a4), (5, .int a5)]) dX0_apartFrom_60 (by decide) rfl (q := 62) rfl ?_
    refine J_iload (z := 5) dX0_apartFrom_62 rfl (q := 64) rfl ?_
    refine J_iload (z := 0) dX0_apartFrom_64 rfl (q := 66) rfl ?_
    refine J_iconst (x := (-1)) dX0_apartFrom_66 (by decide) (q := 67) rfl ?_
    refine J_icmp_ne (tgt := 74) dX0_apartFrom_67 (by decide) (q := 70) rfl (fun c9 => ?_) (fun c9 => ?_)
    · rw [if_neg c9] at h
      refine J_iload (z := 0) dX0_apartFrom_74 rfl (q := 76) rfl ?_
      refine J_iload_n (z := 4) dX0_apartFrom_76 rfl rfl (q := 77) rfl ?_
      obtain ⟨vk11, hk11, h⟩ := bindS h
      refine J_cSi (as := [.int vk9, .int a3]) dX0_apartFrom_77 mRX0_140 (tX0_turn  hk11) rfl (Nat.le_of_ble_eq_true rfl) (Nat.le_of_ble_eq_true rfl) (Nat.le_of_ble_eq_true rfl) (q := 80) rfl ?_
      intro bk11
      refine J_pick [1, 2, 3, 4, 6] rfl ?_
      exact tX0_apartFrom_b80 ha0 ha1 h hc hr
    · rw [if_pos c9] at h
      refine J_iconst (x := 0) dX0_apartFrom_70 (by decide) (q := 71) rfl ?_
      refine J_goto (tgt := 80) dX0_apartFrom_71 (by decide) ?_
      refine J_pick [1, 2, 3, 4, 6] rfl ?_
      exact tX0_apartFrom_b80 ha0 ha1 h hc hr

def fX0_apartFrom_w41 (a0 : Nat) (a1 : Nat) (a2 : Int32) (a3 : Int32) (a4 : Int32) (a5 : Int32) (σ : Mm) : Option (Int32) :=
  wh (fun a : Int32 × Int32 => fX0_apartFrom_l41 a0 a1 a2 a3 a.1 a.2 σ) BIG (a4, a5)
set_option maxRecDepth 20000 in
set_option maxHeartbeats 2000000 in
theorem tX0_apartFrom_w41 {X : XS} {n : Nat} {σ : Mm} {F : Nat × Option Value × Mm} {a0 : Nat} {a1 : Nat} {a2 : Int32} {a3 : Int32} {a4 : Int32} {a5 : Int32} (ha0 : RT n a0 100) (ha1 : RT n a1 106) {res : Int32} (h : fX0_apartFrom_w41 a0 a1 a2 a3 a4 a5 σ = some res) (hr : ∀ (v : Int32), res = v → F = (n, some (.int v), σ)) : J X mX0_apartFrom 3 0 0 F 41 [(0, .ref a0), (1, .ref a1), (2, .int a2), (3, .int a3), (4, .int a4), (5, .int a5)] [] n σ := by
  unfold fX0_apartFrom_w41 at h
  refine wh_rule (P := fun a : Int32 × Int32 => J X mX0_apartFrom 3 0 0 F 41 [(0, .ref a0), (1, .ref a1), (2, .int a2), (3, .int a3), (4, .int a.1), (5, .int a.2)] [] n σ) (K := fun b => b = res) ?_ _ _ _ h rfl
  intro a
  refine ⟨fun a2 hb hP => ?_, fun b hb hK => ?_⟩
  · exact tX0_apartFrom_l41 ha0 ha1 hb (fun _ _ e => by cases e; exact hP) (fun _ e => by cases e)
  · subst hK
    exact tX0_apartFrom_l41 ha0 ha1 hb (fun _ _ e => by cases e) (fun v0 e => hr v0 (Sum.inr.inj e))

def fX0_apartFrom_b36 (a0 : Nat) (a1 : Nat) (a2 : Int32) (a3 : Int32) (z0 : Int32) (σ : Mm) : Option (Int32) :=
  (fX0_apartFrom_w41 a0 a1 a2 a3 z0 0 σ).bind (fun o12 => some o12)
set_option maxRecDepth 20000 in
set_option maxHeartbeats 2000000 in
theorem tX0_apartFrom_b36 {X : XS} {n : Nat} {σ : Mm} {a0 : Nat} {a1 : Nat} {a2 : Int32} {a3 : Int32} {z0 : Int32} (ha0 : RT n a0 100) (ha1 : RT n a1 106) {res : Int32} (h : fX0_apartFrom_b36 a0 a1 a2 a3 z0 σ = some res) : J X mX0_apartFrom 3 0 0 (n, some (.int res), σ) 36 [(0, .ref a0), (1, .ref a1), (2, .int a2), (3, .int a3)] [.int z0] n σ := by
  unfold fX0_apartFrom_b36 at h
  refine J_istore (lv' := [(4, .int z0), (0, .ref a0), (1, .ref a1), (2, .int a2), (3, .int a3)]) dX0_apartFrom_36 (by decide) rfl (q := 38) rfl ?_
  refine J_iconst (x := 0) dX0_apartFrom_38 (by decide) (q := 39) rfl ?_
  refine J_istore (lv' := [(5, .int 0), (4, .int z0), (0, .ref a0), (1, .ref a1), (2, .int a2), (3, .int a3)]) dX0_apartFrom_39 (by decide) rfl (q := 41) rfl ?_
  obtain ⟨o12, hlo12, h⟩ := bindS h
  refine J_pick [2, 3, 4, 5, 1, 0] rfl ?_
  refine tX0_apartFrom_w41 ha0 ha1 hlo12 ?_
  · intro vo12 qo12
    rw [qo12] at h
    try dsimp only [Sum.elim_inl, Sum.elim_inr] at h
    have h := Option.some.inj h
    subst h
    rfl

def fX0_apartFrom (a0 : Nat) (a1 : Nat) (a2 : Int32) (a3 : Int32) (σ : Mm) : Option (Int32) :=
  (gR σ a0 0).bind fun r1 => (fX1_hasPage r1 a2 σ).bind fun vk2 => if vk2 = 0 then some 0 else (gR σ a1 0).bind fun r4 => if ixB a2 (ln r4) = true then if (gI σ r4 (Int32.toNatClampNeg a2)) ≤ 0 then fX0_apartFrom_b36 a0 a1 a2 a3 0 σ else (gR σ a1 1).bind fun r13 => if ixB a2 (ln r13) = true then (fX0_turn (gI σ r13 (Int32.toNatClampNeg a2)) a3 σ).bind fun vk15 => fX0_apartFrom_b36 a0 a1 a2 a3 vk15 σ else none else none
set_option maxRecDepth 20000 in
set_option maxHeartbeats 2000000 in
theorem tX0_apartFrom {X : XS} {n : Nat} {σ : Mm} {a0 : Nat} {a1 : Nat} {a2 : Int32} {a3 : Int32} (ha0 : RT n a0 100) (ha1 : RT n a1 106) {res : Int32} (h : fX0_apartFrom a0 a1 a2 a3 σ = some res) : MT X yX0_apartFrom mX0_apartFrom 3 0 0 [.ref a0, .ref a1, .int a2, .int a3] n σ (n, some (.int res), σ) := by
  unfold fX0_apartFrom at h
  refine MT_of (by decide +kernel) rfl (fun h => by cases h) (Nat.le_of_ble_eq_true rfl) ?_
  show J X mX0_apartFrom 3 0 0 (n, some (.int res), σ) 0 [(0, .ref a0), (1, .ref a1), (2, .int a2), (3, .int a3)] [] n σ
  refine J_aload_n (z := 0) dX0_apartFrom_0 rfl rfl (q := 1) rfl ?_
  obtain ⟨r1, er1, h⟩ := bindS h
  refine J_getR dX0_apartFrom_1 lRX0_28 ha0 rfl (by decide) er1 (q := 4) rfl (fun fr1 => ?_)
  refine J_iload_n (z := 2) dX0_apartFrom_4 rfl rfl (q := 5) rfl ?_
  obtain ⟨vk2, hk2, h⟩ := bindS h
  refine J_cVi (as := [.int a2]) dX0_apartFrom_5 mRX0_134 fr1 (tX1_hasPage fr1 hk2) rfl (Nat.le_of_ble_eq_true rfl) (Nat.le_of_ble_eq_true rfl) (Nat.le_of_ble_eq_true rfl) (q := 8) rfl ?_
  intro bk2
  refine J_if_ne (tgt := 13) dX0_apartFrom_8 (by decide) (q := 11) rfl (fun c2 => ?_) (fun c2 => ?_)
  · rw [if_neg c2] at h
    refine J_aload_n (z := 1) dX0_apartFrom_13 rfl rfl (q := 14) rfl ?_
    obtain ⟨r4, er4, h⟩ := bindS h
    refine J_getR dX0_apartFrom_14 lRX0_125 ha1 rfl (by decide) er4 (q := 17) rfl (fun fr4 => ?_)
    refine J_iload_n (z := 2) dX0_apartFrom_17 rfl rfl (q := 18) rfl ?_
    obtain ⟨g5, h⟩ := iteS h
    refine J_iald dX0_apartFrom_18 fr4 (ixB_ok g5) (q := 19) rfl ?_
    refine J_if_le (tgt := 35) dX0_apartFrom_19 (by decide) (q := 22) rfl (fun c5 => ?_) (fun c5 => ?_)
    · rw [if_pos c5] at h
      refine J_iconst (x := 0) dX0_apartFrom_35 (by decide) (q := 36) rfl ?_
      refine J_pick [0, 1, 2, 3] rfl ?_
      exact tX0_apartFrom_b36 ha0 ha1 h
    · rw [if_neg c5] at h
      refine J_aload_n (z := 1) dX0_apartFrom_22 rfl rfl (q := 23) rfl ?_
      obtain ⟨r13, er13, h⟩ := bindS h
      refine J_getR dX0_apartFrom_23 lRX0_137 ha1 rfl (by decide) er13 (q := 26) rfl (fun fr13 => ?_)
      refine J_iload_n (z := 2) dX0_apartFrom_26 rfl rfl (q := 27) rfl ?_
      obtain ⟨g14, h⟩ := iteS h
      refine J_iald dX0_apartFrom_27 fr13 (ixB_ok g14) (q := 28) rfl ?_
      refine J_iload_n (z := 3) dX0_apartFrom_28 rfl rfl (q := 29) rfl ?_
      obtain ⟨vk15, hk15, h⟩ := bindS h
      refine J_cSi (as := [.int (gI σ r13 (Int32.toNatClampNeg a2)), .int a3]) dX0_apartFrom_29 mRX0_140 (tX0_turn  hk15) rfl (Nat.le_of_ble_eq_true rfl) (Nat.le_of_ble_eq_true rfl) (Nat.le_of_ble_eq_true rfl) (q := 32) rfl ?_
      intro bk15
      refine J_goto (tgt := 36) dX0_apartFrom_32 (by decide) ?_
      refine J_pick [0, 1, 2, 3] rfl ?_
      exact tX0_apartFrom_b36 ha0 ha1 h
  · rw [if_pos c2] at h
    refine J_iconst (x := 0) dX0_apartFrom_11 (by decide) (q := 12) rfl ?_
    have h := Option.some.inj h
    subst h
    exact J_ireturn dX0_apartFrom_12 rfl rfl rfl

def fX0_meltOfSet_b57 (a0 : Nat) (a1 : Nat) (a2 : Int32) (a3 : Int32) (a4 : Int32) (a5 : Int32) (a6 : Int32) (a7 : Int32) (σ : Mm) : Option ((Int32 × Int32 × Mm) ⊕ (Int32 × Mm)) :=
  some (Sum.inl (a6, (a7 + 1), σ))
set_option maxRecDepth 20000 in
set_option maxHeartbeats 2000000 in
theorem tX0_meltOfSet_b57 {X : XS} {n : Nat} {σ : Mm} {F : Nat × Option Value × Mm} {a0 : Nat} {a1 : Nat} {a2 : Int32} {a3 : Int32} {a4 : Int32} {a5 : Int32} {a6 : Int32} {a7 : Int32} (ha0 : RT n a0 100) (ha1 : RT n a1 106) {res : (Int32 × Int32 × Mm) ⊕ (Int32 × Mm)} (h : fX0_meltOfSet_b57 a0 a1 a2 a3 a4 a5 a6 a7 σ = some res) (hc : ∀ (b6 : Int32) (b7 : Int32) (s : Mm), res = .inl (b6, b7, s) → J X mX0_meltOfSet 4 0 0 F 15 [(0, .ref a0), (1, .ref a1), (2, .int a2), (3, .int a3), (4, .int a4), (5, .int a5), (6, .int b6), (7, .int b7)] [] n s) (hr : ∀ (v : Int32) (s : Mm), res = .inr (v, s) → F = (n, some (.int v), s)) : J X mX0_meltOfSet 4 0 0 F 57 [(0, .ref a0), (1, .ref a1), (2, .int a2), (3, .int a3), (4, .int a4), (5, .int a5), (6, .int a6), (7, .int a7)] [] n σ := by
  unfold fX0_meltOfSet_b57 at h
  refine J_iinc (z := 7) (y := (a7 + 1)) (lv' := [(7, .int (a7 + 1)), (0, .ref a0), (1, .ref a1), (2, .int a2), (3, .int a3), (4, .int a4), (5, .int a5), (6, .int a6)]) dX0_meltOfSet_57 rfl rfl (by decide) rfl (q := 60) rfl ?_
  refine J_goto (tgt := 15) dX0_meltOfSet_60 (by decide) ?_
  have h := Option.some.inj h
  refine J_pick [1, 2, 3, 4, 5, 6, 7, 0] rfl ?_
  exact hc _ _ _ h.symm

def fX0_meltOfSet_l15 (a0 : Nat) (a1 : Nat) (a2 : Int32) (a3 : Int32) (a4 : Int32) (a5 : Int32) (a6 : Int32) (a7 : Int32) (σ : Mm) : Option ((Int32 × Int32 × Mm) ⊕ (Int32 × Mm)) :=
  (gR σ a0 0).bind fun r2 => if (gI σ r2 5) ≤ a7 then some (Sum.inr (a6, σ)) else if ((shrI a4 a7) &&& 1) = 1 then (gR σ a0 1).bind fun r5 => bnd2 (fX8_meltBy r5 a1 a7 a2 a3 a5 σ) fun vk6 sk6 => fX0_meltOfSet_b57 a0 a1 a2 a3 a4 a5 (a6 + vk6) a7 sk6 else fX0_meltOfSet_b57 a0 a1 a2 a3 a4 a5 a6 a7 σ
set_option maxRecDepth 20000 in
set_option maxHeartbeats 2000000 in
theorem tX0_meltOfSet_l15 {X : XS} {n : Nat} {σ : Mm} {F : Nat × Option Value × Mm} {a0 : Nat} {a1 : Nat} {a2 : Int32} {a3 : Int32} {a4 : Int32} {a5 : Int32} {a6 : Int32} {a7 : Int32} (ha0 : RT n a0 100) (ha1 : RT n a1 106) {res : (Int32 × Int32 × Mm) ⊕ (Int32 × Mm)} (h : fX0_meltOfSet_l15 a0 a1 a2 a3 a4 a5 a6 a7 σ = some res) (hc : ∀ (b6 : Int32) (b7 : Int32) (s : Mm), res = .inl (b6, b7, s) → J X mX0_meltOfSet 4 0 0 F 15 [(0, .ref a0), (1, .ref a1), (2, .int a2), (3, .int a3), (4, .int a4), (5, .int a5), (6, .int b6), (7, .int b7)] [] n s) (hr : ∀ (v : Int32) (s : Mm), res = .inr (v, s) → F = (n, some (.int v), s)) : J X mX0_meltOfSet 4 0 0 F 15 [(0, .ref a0), (1, .ref a1), (2, .int a2), (3, .int a3), (4, .int a4), (5, .int a5), (6, .int a6), (7, .int a7)] [] n σ := by
  unfold fX0_meltOfSet_l15 at h
  refine J_iload (z := 7) dX0_meltOfSet_15 rfl (q := 17) rfl ?_
  refine J_aload_n (z := 0) dX0_meltOfSet_17 rfl rfl (q := 18) rfl ?_
  obtain ⟨r2, er2, h⟩ := bindS h
  refine J_getR dX0_meltOfSet_18 lRX0_28 ha0 rfl (by decide) er2 (q := 21) rfl (fun fr2 => ?_)
  refine J_getI dX0_meltOfSet_21 lRX0_115 fr2 rfl (q := 24) rfl ?_
  refine J_icmp_ge (tgt := 63) dX0_meltOfSet_24 (by decide) (q := 27) rfl (fun c2 => ?_) (fun c2 => ?_)
  · rw [if_pos c2] at h
    refine J_iload (z := 6) dX0_meltOfSet_63 rfl (q := 65) rfl ?_
    have h := Option.some.inj h
    exact J_ireturn dX0_meltOfSet_65 rfl rfl (hr _ _ h.symm)
  · rw [if_neg c2] at h
    refine J_iload (z := 4) dX0_meltOfSet_27 rfl (q := 29) rfl ?_
    refine J_iload (z := 7) dX0_meltOfSet_29 rfl (q := 31) rfl ?_
    refine J_ishr dX0_meltOfSet_31  (q := 32) rfl ?_
    refine J_iconst (x := 1) dX0_meltOfSet_32 (by decide) (q := 33) rfl ?_
    refine J_iand dX0_meltOfSet_33  (q := 34) rfl ?_
    refine J_iconst (x := 1) dX0_meltOfSet_34 (by decide) (q := 35) rfl ?_
    refine J_icmp_ne (tgt := 57) dX0_meltOfSet_35 (by decide) (q := 38) rfl (fun c3 => ?_) (fun c3 => ?_)
    · rw [if_neg c3] at h
      refine J_pick [0, 1, 2, 3, 4, 5, 6, 7] rfl ?_
      exact tX0_meltOfSet_b57 ha0 ha1 h hc hr
    · rw [if_pos c3] at h
      refine J_iload (z := 6) dX0_meltOfSet_38 rfl (q := 40) rfl ?_
      refine J_aload_n (z := 0) dX0_meltOfSet_40 rfl rfl (q := 41) rfl ?_
      obtain ⟨r5, er5, h⟩ := bindS h
      refine J_getR dX0_meltOfSet_41 lRX0_32 ha0 rfl (by decide) er5 (q := 44) rfl (fun fr5 => ?_)
      refine J_aload_n (z := 1) dX0_meltOfSet_44 rfl rfl (q := 45) rfl ?_
      refine J_iload (z := 7) dX0_meltOfSet_45 rfl (q := 47) rfl ?_
      refine J_iload_n (z := 2) dX0_meltOfSet_47 rfl rfl (q := 48) rfl ?_
      refine J_iload_n (z := 3) dX0_meltOfSet_48 rfl rfl (q := 49) rfl ?_
      refine J_iload (z := 5) dX0_meltOfSet_49 rfl (q := 51) rfl ?_
      obtain ⟨vk6, sk6, hk6, h⟩ := bnd2S h
      refine J_cVi (as := [.ref a1, .int a7, .int a2, .int a3, .int a5]) dX0_meltOfSet_51 mRX0_146 fr5 (tX8_meltBy fr5 ha1 hk6) rfl (Nat.le_of_ble_eq_true rfl) (Nat.le_of_ble_eq_true rfl) (Nat.le_of_ble_eq_true rfl) (q := 54) rfl ?_
      intro bk6
      refine J_iadd dX0_meltOfSet_54  (q := 55) rfl ?_
      refine J_istore (lv' := [(6, .int (a6 + vk6)), (0, .ref a0), (1, .ref a1), (2, .int a2), (3, .int a3), (4, .int a4), (5, .int a5), (7, .int a7)]) dX0_meltOfSet_55 (by decide) rfl (q := 57) rfl ?_
      refine J_pick [1, 2, 3, 4, 5, 6, 0, 7] rfl ?_
      exact tX0_meltOfSet_b57 ha0 ha1 h hc hr

def fX0_meltOfSet_w15 (a0 : Nat) (a1 : Nat) (a2 : Int32) (a3 : Int32) (a4 : Int32) (a5 : Int32) (a6 : Int32) (a7 : Int32) (σ : Mm) : Option (Int32 × Mm) :=
  wh (fun a : Int32 × Int32 × Mm => fX0_meltOfSet_l15 a0 a1 a2 a3 a4 a5 a.1 a.2.1 a.2.2) BIG (a6, a7, σ)
set_option maxRecDepth 20000 in
set_option maxHeartbeats 2000000 in
theorem tX0_meltOfSet_w15 {X : XS} {n : Nat} {σ : Mm} {F : Nat × Option Value × Mm} {a0 : Nat} {a1 : Nat} {a2 : Int32} {a3 : Int32} {a4 : Int32} {a5 : Int32} {a6 : Int32} {a7 : Int32} (ha0 : RT n a0 100) (ha1 : RT n a1 106) {res : Int32 × Mm} (h : fX0_meltOfSet_w15 a0 a1 a2 a3 a4 a5 a6 a7 σ = some res) (hr : ∀ (v : Int32) (s : Mm), res = (v, s) → F = (n, some (.int v), s)) : J X mX0_meltOfSet 4 0 0 F 15 [(0, .ref a0), (1, .ref a1), (2, .int a2), (3, .int a3), (4, .int a4), (5, .int a5), (6, .int a6), (7, .int a7)] [] n σ := by
  unfold fX0_meltOfSet_w15 at h
  refine wh_rule (P := fun a : Int32 × Int32 × Mm => J X mX0_meltOfSet 4 0 0 F 15 [(0, .ref a0), (1, .ref a1), (2, .int a2), (3, .int a3), (4, .int a4), (5, .int a5), (6, .int a.1), (7, .int a.2.1)] [] n a.2.2) (K := fun b => b = res) ?_ _ _ _ h rfl
  intro a
  refine ⟨fun a2 hb hP => ?_, fun b hb hK => ?_⟩
  · exact tX0_meltOfSet_l15 ha0 ha1 hb (fun _ _ _ e => by cases e; exact hP) (fun _ _ e => by cases e)
  · subst hK
    exact tX0_meltOfSet_l15 ha0 ha1 hb (fun _ _ _ e => by cases e) (fun v0 v1 e => hr v0 v1 (Sum.inr.inj e))

def fX0_meltOfSet (a0 : Nat) (a1 : Nat) (a2 : Int32) (a3 : Int32) (a4 : Int32) (σ : Mm) : Option (Int32 × Mm) :=
  (fJ6_bitCount_0f7a4 a4 σ).bind fun vk1 => (fX0_meltOfSet_w15 a0 a1 a2 a3 a4 (vk1 - 1) 0 0 σ).bind (fun o7 => some o7)
set_option maxRecDepth 20000 in
set_option maxHeartbeats 2000000 in
theorem tX0_meltOfSet {X : XS} {n : Nat} {σ : Mm} {a0 : Nat} {a1 : Nat} {a2 : Int32} {a3 : Int32} {a4 : Int32} (ha0 : RT n a0 100) (ha1 : RT n a1 106) {res : Int32 × Mm} (h : fX0_meltOfSet a0 a1 a2 a3 a4 σ = some res) : MT X yX0_meltOfSet mX0_meltOfSet 4 0 0 [.ref a0, .ref a1, .int a2, .int a3, .int a4] n σ (n, some (.int res.1), res.2) := by
  unfold fX0_meltOfSet at h
  refine MT_of (by decide +kernel) rfl (fun h => by cases h) (Nat.le_of_ble_eq_true rfl) ?_
  show J X mX0_meltOfSet 4 0 0 (n, some (.int res.1), res.2) 0 [(0, .ref a0), (1, .ref a1), (2, .int a2), (3, .int a3), (4, .int a4)] [] n σ
  refine J_iload (z := 4) dX0_meltOfSet_0 rfl (q := 2) rfl ?_
  obtain ⟨vk1, hk1, h⟩ := bindS h
  refine J_cSi (as := [.int a4]) dX0_meltOfSet_2 mRX0_49 (tJ6_bitCount_0f7a4  hk1) rfl (Nat.le_of_ble_eq_true rfl) (Nat.le_of_ble_eq_true rfl) (Nat.le_of_ble_eq_true rfl) (q := 5) rfl ?_
  intro bk1
  refine J_iconst (x := 1) dX0_meltOfSet_5 (by decide) (q := 6) rfl ?_
  refine J_isub dX0_meltOfSet_6  (q := 7) rfl ?_
  refine J_istore (lv' := [(5, .int (vk1 - 1)), (0, .ref a0), (1, .ref a1), (2, .int a2), (3, .int a3), (4, .int a4)]) dX0_meltOfSet_7 (by decide) rfl (q := 9) rfl ?_
  refine J_iconst (x := 0) dX0_meltOfSet_9 (by decide) (q := 10) rfl ?_
  refine J_istore (lv' := [(6, .int 0), (5, .int (vk1 - 1)), (0, .ref a0), (1, .ref a1), (2, .int a2), (3, .int a3), (4, .int a4)]) dX0_meltOfSet_10 (by decide) rfl (q := 12) rfl ?_
  refine J_iconst (x := 0) dX0_meltOfSet_12 (by decide) (q := 13) rfl ?_
  refine J_istore (lv' := [(7, .int 0), (6, .int 0), (5, .int (vk1 - 1)), (0, .ref a0), (1, .ref a1), (2, .int a2), (3, .int a3), (4, .int a4)]) dX0_meltOfSet_13 (by decide) rfl (q := 15) rfl ?_
  obtain ⟨o7, hlo7, h⟩ := bindS h
  refine J_pick [3, 4, 5, 6, 7, 2, 1, 0] rfl ?_
  refine tX0_meltOfSet_w15 ha0 ha1 hlo7 ?_
  · intro vo7 so7 qo7
    rw [qo7] at h
    try dsimp only [Sum.elim_inl, Sum.elim_inr] at h
    have h := Option.some.inj h
    subst h
    rfl

def fJ7_fill_d0a16_l6 (a0 : Nat) (a1 : Int64) (a4 : Int32) (a3 : Int32) (σ : Mm) : Option ((Int32 × Mm) ⊕ (Mm)) :=
  if a4 ≤ a3 then some (Sum.inr σ) else if ixB a3 (ln a0) = true then some (Sum.inl ((a3 + 1), (sL σ a0 (Int32.toNatClampNeg a3) a1))) else none
set_option maxRecDepth 20000 in
set_option maxHeartbeats 2000000 in
theorem tJ7_fill_d0a16_l6 {X : XS} {n : Nat} {σ : Mm} {F : Nat × Option Value × Mm} {a0 : Nat} {a1 : Int64} {a4 : Int32} {a3 : Int32} (ha0 : RT n a0 201) {res : (Int32 × Mm) ⊕ (Mm)} (h : fJ7_fill_d0a16_l6 a0 a1 a4 a3 σ = some res) (hc : ∀ (b3 : Int32) (s : Mm), res = .inl (b3, s) → J X mJ7_fill_d0a16 1 0 0 F 6 [(0, .ref a0), (1, .long a1), (3, .int b3), (4, .int a4)] [] n s) (hr : ∀ (s : Mm), res = .inr s → F = (n, none, s)) : J X mJ7_fill_d0a16 1 0 0 F 6 [(0, .ref a0), (1, .long a1), (3, .int a3), (4, .int a4)] [] n σ := by
  unfold fJ7_fill_d0a16_l6 at h
  refine J_iload_n (z := 2) dJ7_fill_d0a16_6 rfl rfl (q := 7) rfl ?_
  refine J_iload (z := 3) dJ7_fill_d0a16_7 rfl (q := 9) rfl ?_
  refine J_icmp_ge (tgt := 22) dJ7_fill_d0a16_9 (by decide) (q := 12) rfl (fun c0 => ?_) (fun c0 => ?_)
  · rw [if_pos c0] at h
    have h := Option.some.inj h
    exact J_return dJ7_fill_d0a16_22 rfl (hr _ h.symm)
  · rw [if_neg c0] at h
    refine J_aload_n (z := 0) dJ7_fill_d0a16_12 rfl rfl (q := 13) rfl ?_
    refine J_iload_n (z := 2) dJ7_fill_d0a16_13 rfl rfl (q := 14) rfl ?_
    refine J_lload_n (z := 1) dJ7_fill_d0a16_14 rfl rfl (q := 15) rfl ?_
    obtain ⟨g2, h⟩ := iteS h
    refine J_last dJ7_fill_d0a16_15 ha0 (ixB_ok g2) (q := 16) rfl ?_
    refine J_iinc (z := 2) (y := (a3 + 1)) (lv' := [(3, .int (a3 + 1)), (0, .ref a0), (1, .long a1), (4, .int a4)]) dJ7_fill_d0a16_16 rfl rfl (by decide) rfl (q := 19) rfl ?_
    refine J_goto (tgt := 6) dJ7_fill_d0a16_19 (by decide) ?_
    have h := Option.some.inj h
    refine J_pick [1, 2, 0, 3] rfl ?_
    exact hc _ _ h.symm

def fJ7_fill_d0a16_w6 (a0 : Nat) (a1 : Int64) (a4 : Int32) (a3 : Int32) (σ : Mm) : Option (Mm) :=
  wh (fun a : Int32 × Mm => fJ7_fill_d0a16_l6 a0 a1 a4 a.1 a.2) BIG (a3, σ)
set_option maxRecDepth 20000 in
set_option maxHeartbeats 2000000 in
theorem tJ7_fill_d0a16_w6 {X : XS} {n : Nat} {σ : Mm} {F : Nat × Option Value × Mm} {a0 : Nat} {a1 : Int64} {a4 : Int32} {a3 : Int32} (ha0 : RT n a0 201) {res : Mm} (h : fJ7_fill_d0a16_w6 a0 a1 a4 a3 σ = some res) (hr : ∀ (s : Mm), res = s → F = (n, none, s)) : J X mJ7_fill_d0a16 1 0 0 F 6 [(0, .ref a0), (1, .long a1), (3, .int a3), (4, .int a4)] [] n σ := by
  unfold fJ7_fill_d0a16_w6 at h
  refine wh_rule (P := fun a : Int32 × Mm => J X mJ7_fill_d0a16 1 0 0 F 6 [(0, .ref a0), (1, .long a1), (3, .int a.1), (4, .int a4)] [] n a.2) (K := fun b => b = res) ?_ _ _ _ h rfl
  intro a
  refine ⟨fun a2 hb hP => ?_, fun b hb hK => ?_⟩
  · exact tJ7_fill_d0a16_l6 ha0 hb (fun _ _ e => by cases e; exact hP) (fun _ e => by cases e)
  · subst hK
    exact tJ7_fill_d0a16_l6 ha0 hb (fun _ _ e => by cases e) (fun v0 e => hr v0 (Sum.inr.inj e))

def fJ7_fill_d0a16 (a0 : Nat) (a1 : Int64) (σ : Mm) : Option (Mm) :=
  (fJ7_fill_d0a16_w6 a0 a1 (nI (ln a0)) 0 σ).bind (fun o3 => some o3)
set_option maxRecDepth 20000 in
set_option maxHeartbeats 2000000 in
theorem tJ7_fill_d0a16 {X : XS} {n : Nat} {σ : Mm} {a0 : Nat} {a1 : Int64} (ha0 : RT n a0 201) {res : Mm} (h : fJ7_fill_d0a16 a0 a1 σ = some res) : MT X yJ7_fill_d0a16 mJ7_fill_d0a16 1 0 0 [.ref a0, .long a1] n σ (n, none, res) := by
  unfold fJ7_fill_d0a16 at h
  refine MT_of (by decide +kernel) rfl (fun h => by cases h) (Nat.le_of_ble_eq_true rfl) ?_
  show J X mJ7_fill_d0a16 1 0 0 (n, none, res) 0 [(0, .ref a0), (1, .long a1)] [] n σ
  refine J_iconst (x := 0) dJ7_fill_d0a16_0 (by decide) (q := 1) rfl ?_
  refine J_istore_n (lv' := [(3, .int 0), (0, .ref a0), (1, .long a1)]) dJ7_fill_d0a16_1 rfl (by decide) rfl (q := 2) rfl ?_
  refine J_aload_n (z := 1) dJ7_fill_d0a16_2 rfl rfl (q := 3) rfl ?_
  refine J_alen (t := 1) dJ7_fill_d0a16_3 ha0 (by decide) rfl (q := 4) rfl ?_
  refine J_istore (lv' := [(4, .int (nI (ln a0))), (3, .int 0), (0, .ref a0), (1, .long a1)]) dJ7_fill_d0a16_4 (by decide) rfl (q := 6) rfl ?_
  obtain ⟨o3, hlo3, h⟩ := bindS h
  refine J_pick [2, 3, 1, 0] rfl ?_
  refine tJ7_fill_d0a16_w6 ha0 hlo3 ?_
  · intro so3 qo3
    rw [qo3] at h
    try dsimp only [Sum.elim_inl, Sum.elim_inr] at h
    have h := Option.some.inj h
    subst h
    rfl

def fX0_passing_l35 (a0 : Nat) (a1 : Int32) (a2 : Int32) (a3 : Int32) (a4 : Int32) (a5 : Int32) (σ : Mm) : Option ((Int32 × Mm) ⊕ (Mm)) :=
  if a5 < 0 then some (Sum.inr σ) else (gR σ a0 5).bind fun r7 => if ixB a5 (ln r7) = true then if ixB a5 (ln r7) = true then if ixB a5 (ln r7) = true then if ixB (a5 + 1) (ln r7) = true then if ixB (a5 + 1) (ln r7) = true then some (Sum.inl ((a5 + (-1)), (sL (sL σ r7 (Int32.toNatClampNeg a5) ((gL σ r7 (Int32.toNatClampNeg a5)) - (((gL σ r7 (Int32.toNatClampNeg a5)) * (Int32.toInt64 a3)) / 100))) r7 (Int32.toNatClampNeg (a5 + 1)) ((gL (sL σ r7 (Int32.toNatClampNeg a5) ((gL σ r7 (Int32.toNatClampNeg a5)) - (((gL σ r7 (Int32.toNatClampNeg a5)) * (Int32.toInt64 a3)) / 100))) r7 (Int32.toNatClampNeg (a5 + 1))) + (((gL σ r7 (Int32.toNatClampNeg a5)) * (Int32.toInt64 a3)) / 100))))) else none else none else none else none else none
set_option maxRecDepth 20000 in
set_option maxHeartbeats 2000000 in
theorem tX0_passing_l35 {X : XS} {n : Nat} {σ : Mm} {F : Nat × Option Value × Mm} {a0 : Nat} {a1 : Int32} {a2 : Int32} {a3 : Int32} {a4 : Int32} {a5 : Int32} (ha0 : RT n a0 100) {res : (Int32 × Mm) ⊕ (Mm)} (h : fX0_passing_l35 a0 a1 a2 a3 a4 a5 σ = some res) (hc : ∀ (b5 : Int32) (s : Mm), res = .inl (b5, s) → J X mX0_passing 2 0 0 F 35 [(0, .ref a0), (1, .int a1), (2, .int a2), (3, .int a3), (4, .int a4), (5, .int b5)] [] n s) (he0 : ∀  (s : Mm), res = .inr s → J X mX0_passing 2 0 0 F 88 [(0, .ref a0), (1, .int a1), (2, .int a2), (3, .int a3), (4, .int a4)] [] n s) : J X mX0_passing 2 0 0 F 35 [(0, .ref a0), (1, .int a1), (2, .int a2), (3, .int a3), (4, .int a4), (5, .int a5)] [] n σ := by
  unfold fX0_passing_l35 at h
  refine J_iload (z := 5) dX0_passing_35 rfl (q := 37) rfl ?_
  refine J_if_lt (tgt := 88) dX0_passing_37 (by decide) (q := 40) rfl (fun c5 => ?_) (fun c5 => ?_)
  · rw [if_pos c5] at h
    have h := Option.some.inj h
    refine J_pick [0, 1, 2, 3, 4] rfl ?_
    exact he0 _ h.symm
  · rw [if_neg c5] at h
    refine J_aload_n (z := 0) dX0_passing_40 rfl rfl (q := 41) rfl ?_
    obtain ⟨r7, er7, h⟩ := bindS h
    refine J_getR dX0_passing_41 lRX0_24 ha0 rfl (by decide) er7 (q := 44) rfl (fun fr7 => ?_)
    refine J_iload (z := 5) dX0_passing_44 rfl (q := 46) rfl ?_
    obtain ⟨g8, h⟩ := iteS h
    refine J_lald dX0_passing_46 fr7 (ixB_ok g8) (q := 47) rfl ?_
    refine J_iload_n (z := 3) dX0_passing_47 rfl rfl (q := 48) rfl ?_
    refine J_i2l dX0_passing_48  (q := 49) rfl ?_
    refine J_lmul dX0_passing_49  (q := 50) rfl ?_
    refine J_ldc2 (x := 100) dX0_passing_50 kRX0_155 (q := 53) rfl ?_
    refine J_ldiv dX0_passing_53 (by decide) (q := 54) rfl ?_
    refine J_lstore (lv' := [(6, .long (((gL σ r7 (Int32.toNatClampNeg a5)) * (Int32.toInt64 a3)) / 100)), (0, .ref a0), (1, .int a1), (2, .int a2), (3, .int a3), (4, .int a4), (5, .int a5)]) dX0_passing_54 (by decide) rfl (q := 56) rfl ?_
    refine J_aload_n (z := 1) dX0_passing_56 rfl rfl (q := 57) rfl ?_
    refine J_getR dX0_passing_57 lRX0_24 ha0 rfl (by decide) er7 (q := 60) rfl (fun _ => ?_)
    refine J_iload (z := 6) dX0_passing_60 rfl (q := 62) rfl ?_
    refine J_dup2 dX0_passing_62 rfl rfl (q := 63) rfl ?_
    obtain ⟨g9, h⟩ := iteS h
    refine J_lald dX0_passing_63 fr7 (ixB_ok g9) (q := 64) rfl ?_
    refine J_lload (z := 0) dX0_passing_64 rfl (q := 66) rfl ?_
    refine J_lsub dX0_passing_66  (q := 67) rfl ?_
    obtain ⟨g10, h⟩ := iteS h
    refine J_last dX0_passing_67 fr7 (ixB_ok g10) (q := 68) rfl ?_
    refine J_aload_n (z := 1) dX0_passing_68 rfl rfl (q := 69) rfl ?_
    refine J_getR dX0_passing_69 lRX0_24 ha0 rfl (by decide) er7 (q := 72) rfl (fun _ => ?_)
    refine J_iload (z := 6) dX0_passing_72 rfl (q := 74) rfl ?_
    refine J_iconst (x := 1) dX0_passing_74 (by decide) (q := 75) rfl ?_
    refine J_iadd dX0_passing_75  (q := 76) rfl ?_
    refine J_dup2 dX0_passing_76 rfl rfl (q := 77) rfl ?_
    obtain ⟨g11, h⟩ := iteS h
    refine J_lald dX0_passing_77 fr7 (ixB_ok g11) (q := 78) rfl ?_
    refine J_lload (z := 0) dX0_passing_78 rfl (q := 80) rfl ?_
    refine J_ladd dX0_passing_80  (q := 81) rfl ?_
    obtain ⟨g12, h⟩ := iteS h
    refine J_last dX0_passing_81 fr7 (ixB_ok g12) (q := 82) rfl ?_
    refine J_iinc (z := 6) (y := (a5 + (-1))) (lv' := [(5, .int (a5 + (-1))), (6, .long (((gL σ r7 (Int32.toNatClampNeg a5)) * (Int32.toInt64 a3)) / 100)), (0, .ref a0), (1, .int a1), (2, .int a2), (3, .int a3), (4, .int a4)]) dX0_passing_82 rfl rfl (by decide) rfl (q := 85) rfl ?_
    refine J_goto (tgt := 35) dX0_passing_85 (by decide) ?_
    have h := Option.some.inj h
    refine J_pick [2, 3, 4, 5, 6, 0] rfl ?_
    exact hc _ _ h.symm

def fX0_passing_w35 (a0 : Nat) (a1 : Int32) (a2 : Int32) (a3 : Int32) (a4 : Int32) (a5 : Int32) (σ : Mm) : Option (Mm) :=
  wh (fun a : Int32 × Mm => fX0_passing_l35 a0 a1 a2 a3 a4 a.1 a.2) BIG (a5, σ)
set_option maxRecDepth 20000 in
set_option maxHeartbeats 2000000 in
theorem tX0_passing_w35 {X : XS} {n : Nat} {σ : Mm} {F : Nat × Option Value × Mm} {a0 : Nat} {a1 : Int32} {a2 : Int32} {a3 : Int32} {a4 : Int32} {a5 : Int32} (ha0 : RT n a0 100) {res : Mm} (h : fX0_passing_w35 a0 a1 a2 a3 a4 a5 σ = some res) (he0 : ∀  (s : Mm), res = s → J X mX0_passing 2 0 0 F 88 [(0, .ref a0), (1, .int a1), (2, .int a2), (3, .int a3), (4, .int a4)] [] n s) : J X mX0_passing 2 0 0 F 35 [(0, .ref a0), (1, .int a1), (2, .int a2), (3, .int a3), (4, .int a4), (5, .int a5)] [] n σ := by
  unfold fX0_passing_w35 at h
  refine wh_rule (P := fun a : Int32 × Mm => J X mX0_passing 2 0 0 F 35 [(0, .ref a0), (1, .int a1), (2, .int a2), (3, .int a3), (4, .int a4), (5, .int a.1)] [] n a.2) (K := fun b => b = res) ?_ _ _ _ h rfl
  intro a
  refine ⟨fun a2 hb hP => ?_, fun b hb hK => ?_⟩
  · exact tX0_passing_l35 ha0 hb (fun _ _ e => by cases e; exact hP) (fun _ e => by cases e)
  · subst hK
    exact tX0_passing_l35 ha0 hb (fun _ _ e => by cases e) (fun v0 e => he0 v0 (Sum.inr.inj e))

def fX0_passing_l20 (a0 : Nat) (a1 : Int32) (a2 : Int32) (a3 : Int32) (a4 : Int32) (σ : Mm) : Option ((Int32 × Mm) ⊕ (Mm)) :=
  if a1 ≤ a4 then some (Sum.inr σ) else (fX0_passing_w35 a0 a1 a2 a3 a4 (minI a4 12) σ).bind (fun o13 => (fun so13 => some (Sum.inl ((a4 + 1), so13))) o13)
set_option maxRecDepth 20000 in
set_option maxHeartbeats 2000000 in
theorem tX0_passing_l20 {X : XS} {n : Nat} {σ : Mm} {F : Nat × Option Value × Mm} {a0 : Nat} {a1 : Int32} {a2 : Int32} {a3 : Int32} {a4 : Int32} (ha0 : RT n a0 100) {res : (Int32 × Mm) ⊕ (Mm)} (h : fX0_passing_l20 a0 a1 a2 a3 a4 σ = some res) (hc : ∀ (b4 : Int32) (s : Mm), res = .inl (b4, s) → J X mX0_passing 2 0 0 F 20 [(0, .ref a0), (1, .int a1), (2, .int a2), (3, .int a3), (4, .int b4)] [] n s) (he0 : ∀  (s : Mm), res = .inr s → J X mX0_passing 2 0 0 F 94 [(0, .ref a0), (2, .int a2)] [] n s) : J X mX0_passing 2 0 0 F 20 [(0, .ref a0), (1, .int a1), (2, .int a2), (3, .int a3), (4, .int a4)] [] n σ := by
  unfold fX0_passing_l20 at h
  refine J_iload (z := 4) dX0_passing_20 rfl (q := 22) rfl ?_
  refine J_iload_n (z := 1) dX0_passing_22 rfl rfl (q := 23) rfl ?_
  refine J_icmp_ge (tgt := 94) dX0_passing_23 (by decide) (q := 26) rfl (fun c4 => ?_) (fun c4 => ?_)
  · rw [if_pos c4] at h
    have h := Option.some.inj h
    refine J_pick [0, 2] rfl ?_
    exact he0 _ h.symm
  · rw [if_neg c4] at h
    refine J_iload (z := 4) dX0_passing_26 rfl (q := 28) rfl ?_
    refine J_bipush (x := 12) dX0_passing_28 (by decide) (q := 30) rfl ?_
    refine J_mmin dX0_passing_30 pRX0_109 q_static_mmin q_init_math q_code_mmin (Nat.le_of_ble_eq_true rfl) (Nat.le_of_ble_eq_true rfl) (q := 33) rfl ?_
    refine J_istore (lv' := [(5, .int (minI a4 12)), (0, .ref a0), (1, .int a1), (2, .int a2), (3, .int a3), (4, .int a4)]) dX0_passing_33 (by decide) rfl (q := 35) rfl ?_
    obtain ⟨o13, hlo13, h⟩ := bindS h
    refine J_pick [1, 2, 3, 4, 5, 0] rfl ?_
    refine tX0_passing_w35 ha0 hlo13 ?_
    · intro so13 qo13
      rw [qo13] at h
      try dsimp only [Sum.elim_inl, Sum.elim_inr] at h
      refine J_iinc (z := 4) (y := (a4 + 1)) (lv' := [(4, .int (a4 + 1)), (0, .ref a0), (1, .int a1), (2, .int a2), (3, .int a3)]) dX0_passing_88 rfl rfl (by decide) rfl (q := 91) rfl ?_
      refine J_goto (tgt := 20) dX0_passing_91 (by decide) ?_
      have h := Option.some.inj h
      refine J_pick [1, 2, 3, 4, 0] rfl ?_
      exact hc _ _ h.symm

def fX0_passing_w20 (a0 : Nat) (a1 : Int32) (a2 : Int32) (a3 : Int32) (a4 : Int32) (σ : Mm) : Option (Mm) :=
  wh (fun a : Int32 × Mm => fX0_passing_l20 a0 a1 a2 a3 a.1 a.2) BIG (a4, σ)
set_option maxRecDepth 20000 in
set_option maxHeartbeats 2000000 in
theorem tX0_passing_w20 {X : XS} {n : Nat} {σ : Mm} {F : Nat × Option Value × Mm} {a0 : Nat} {a1 : Int32} {a2 : Int32} {a3 : Int32} {a4 : Int32} (ha0 : RT n a0 100) {res : Mm} (h : fX0_passing_w20 a0 a1 a2 a3 a4 σ = some res) (he0 : ∀  (s : Mm), res = s → J X mX0_passing 2 0 0 F 94 [(0, .ref a0), (2, .int a2)] [] n s) : J X mX0_passing 2 0 0 F 20 [(0, .ref a0), (1, .int a1), (2, .int a2), (3, .int a3), (4, .int a4)] [] n σ := by
  unfold fX0_passing_w20 at h
  refine wh_rule (P := fun a : Int32 × Mm => J X mX0_passing 2 0 0 F 20 [(0, .ref a0), (1, .int a1), (2, .int a2), (3, .int a3), (4, .int a.1)] [] n a.2) (K := fun b => b = res) ?_ _ _ _ h rfl
  intro a
  refine ⟨fun a2 hb hP => ?_, fun b hb hK => ?_⟩
  · exact tX0_passing_l20 ha0 hb (fun _ _ e => by cases e; exact hP) (fun _ e => by cases e)
  · subst hK
    exact tX0_passing_l20 ha0 hb (fun _ _ e => by cases e) (fun v0 e => he0 v0 (Sum.inr.inj e))

def fX0_passing_l104 (a0 : Nat) (a4 : Int64) (a6 : Int32) (σ : Mm) : Option ((Int64 × Int32) ⊕ (Int64)) :=
  (gR σ a0 5).bind fun r15 => if (nI (ln r15)) ≤ a6 then some (Sum.inr a4) else if ixB a6 (ln r15) = true then some (Sum.inl ((a4 + (gL σ r15 (Int32.toNatClampNeg a6))), (a6 + 1))) else none
set_option maxRecDepth 20000 in
set_option maxHeartbeats 2000000 in
theorem tX0_passing_l104 {X : XS} {n : Nat} {σ : Mm} {F : Nat × Option Value × Mm} {a0 : Nat} {a4 : Int64} {a6 : Int32} (ha0 : RT n a0 100) {res : (Int64 × Int32) ⊕ (Int64)} (h : fX0_passing_l104 a0 a4 a6 σ = some res) (hc : ∀ (b4 : Int64) (b6 : Int32), res = .inl (b4, b6) → J X mX0_passing 2 0 0 F 104 [(0, .ref a0), (4, .long b4), (6, .int b6)] [] n σ) (he0 : ∀ (b4 : Int64), res = .inr b4 → J X mX0_passing 2 0 0 F 132 [(4, .long b4)] [] n σ) : J X mX0_passing 2 0 0 F 104 [(0, .ref a0), (4, .long a4), (6, .int a6)] [] n σ := by
  unfold fX0_passing_l104 at h
  refine J_iload (z := 2) dX0_passing_104 rfl (q := 106) rfl ?_
  refine J_aload_n (z := 0) dX0_passing_106 rfl rfl (q := 107) rfl ?_
  obtain ⟨r15, er15, h⟩ := bindS h
  refine J_getR dX0_passing_107 lRX0_24 ha0 rfl (by decide) er15 (q := 110) rfl (fun fr15 => ?_)
  refine J_alen (t := 1) dX0_passing_110 fr15 (by decide) rfl (q := 111) rfl ?_
  refine J_icmp_ge (tgt := 132) dX0_passing_111 (by decide) (q := 114) rfl (fun c15 => ?_) (fun c15 => ?_)
  · rw [if_pos c15] at h
    have h := Option.some.inj h
    refine J_pick [1] rfl ?_
    exact he0 _ h.symm
  · rw [if_neg c15] at h
    refine J_lload (z := 1) dX0_passing_114 rfl (q := 116) rfl ?_
    refine J_aload_n (z := 0) dX0_passing_116 rfl rfl (q := 117) rfl ?_
    refine J_getR dX0_passing_117 lRX0_24 ha0 rfl (by decide) er15 (q := 120) rfl (fun _ => ?_)
    refine J_iload (z := 2) dX0_passing_120 rfl (q := 122) rfl ?_
    obtain ⟨g17, h⟩ := iteS h
    refine J_lald dX0_passing_122 fr15 (ixB_ok g17) (q := 123) rfl ?_
    refine J_ladd dX0_passing_123  (q := 124) rfl ?_
    refine J_lstore (lv' := [(4, .long (a4 + (gL σ r15 (Int32.toNatClampNeg a6)))), (0, .ref a0), (6, .int a6)]) dX0_passing_124 (by decide) rfl (q := 126) rfl ?_
    refine J_iinc (z := 2) (y := (a6 + 1)) (lv' := [(6, .int (a6 + 1)), (4, .long (a4 + (gL σ r15 (Int32.toNatClampNeg a6)))), (0, .ref a0)]) dX0_passing_126 rfl rfl (by decide) rfl (q := 129) rfl ?_
    refine J_goto (tgt := 104) dX0_passing_129 (by decide) ?_
    have h := Option.some.inj h
    refine J_pick [2, 1, 0] rfl ?_
    exact hc _ _ h.symm

def fX0_passing_w104 (a0 : Nat) (a4 : Int64) (a6 : Int32) (σ : Mm) : Option (Int64) :=
  wh (fun a : Int64 × Int32 => fX0_passing_l104 a0 a.1 a.2 σ) BIG (a4, a6)
set_option maxRecDepth 20000 in
set_option maxHeartbeats 2000000 in
theorem tX0_passing_w104 {X : XS} {n : Nat} {σ : Mm} {F : Nat × Option Value × Mm} {a0 : Nat} {a4 : Int64} {a6 : Int32} (ha0 : RT n a0 100) {res : Int64} (h : fX0_passing_w104 a0 a4 a6 σ = some res) (he0 : ∀ (b4 : Int64), res = b4 → J X mX0_passing 2 0 0 F 132 [(4, .long b4)] [] n σ) : J X mX0_passing 2 0 0 F 104 [(0, .ref a0), (4, .long a4), (6, .int a6)] [] n σ := by
  unfold fX0_passing_w104 at h
  refine wh_rule (P := fun a : Int64 × Int32 => J X mX0_passing 2 0 0 F 104 [(0, .ref a0), (4, .long a.1), (6, .int a.2)] [] n σ) (K := fun b => b = res) ?_ _ _ _ h rfl
  intro a
  refine ⟨fun a2 hb hP => ?_, fun b hb hK => ?_⟩
  · exact tX0_passing_l104 ha0 hb (fun _ _ e => by cases e; exact hP) (fun _ e => by cases e)
  · subst hK
    exact tX0_passing_l104 ha0 hb (fun _ _ e => by cases e) (fun v0 e => he0 v0 (Sum.inr.inj e))

def fX0_passing (a0 : Nat) (a1 : Int32) (a2 : Int32) (a3 : Int32) (σ : Mm) : Option (Int32 × Mm) :=
  (gR σ a0 5).bind fun r1 => (fJ7_fill_d0a16 r1 0 σ).bind fun sk2 => (gR sk2 a0 5).bind fun r3 => if ixB 0 (ln r3) = true then (fX0_passing_w20 a0 a1 a2 a3 0 (sL sk2 r3 (Int32.toNatClampNeg 0) 1000000000)).bind (fun o14 => (fun so14 => (fX0_passing_w104 a0 0 (maxI 0 a2) so14).bind (fun o18 => (fun xo18_4 => some ((Int64.toInt32 xo18_4), so14)) o18)) o14) else none
set_option maxRecDepth 20000 in
set_option maxHeartbeats 2000000 in
theorem tX0_passing {X : XS} {n : Nat} {σ : Mm} {a0 : Nat} {a1 : Int32} {a2 : Int32} {a3 : Int32} (ha0 : RT n a0 100) {res : Int32 × Mm} (h : fX0_passing a0 a1 a2 a3 σ = some res) : MT X yX0_passing mX0_passing 2 0 0 [.ref a0, .int a1, .int a2, .int a3] n σ (n, some (.int res.1), res.2) := by
  unfold fX0_passing at h
  refine MT_of (by decide +kernel) rfl (fun h => by cases h) (Nat.le_of_ble_eq_true rfl) ?_
  show J X mX0_passing 2 0 0 (n, some (.int res.1), res.2) 0 [(0, .ref a0), (1, .int a1), (2, .int a2), (3, .int a3)] [] n σ
  refine J_aload_n (z := 0) dX0_passing_0 rfl rfl (q := 1) rfl ?_
  obtain ⟨r1, er1, h⟩ := bindS h
  refine J_getR dX0_passing_1 lRX0_24 ha0 rfl (by decide) er1 (q := 4) rfl (fun fr1 => ?_)
  refine J_lconst (x := 0) dX0_passing_4 (by decide) (q := 5) rfl ?_
  obtain ⟨sk2, hk2, h⟩ := bindS h
  refine J_cSv (as := [.ref r1, .long 0]) dX0_passing_5 mRX0_150 (tJ7_fill_d0a16 fr1 hk2) rfl (Nat.le_of_ble_eq_true rfl) (Nat.le_of_ble_eq_true rfl) (Nat.le_of_ble_eq_true rfl) (q := 8) rfl ?_
  refine J_aload_n (z := 0) dX0_passing_8 rfl rfl (q := 9) rfl ?_
  obtain ⟨r3, er3, h⟩ := bindS h
  refine J_getR dX0_passing_9 lRX0_24 ha0 rfl (by decide) er3 (q := 12) rfl (fun fr3 => ?_)
  refine J_iconst (x := 0) dX0_passing_12 (by decide) (q := 13) rfl ?_
  refine J_ldc2 (x := 1000000000) dX0_passing_13 kRX0_153 (q := 16) rfl ?_
  obtain ⟨g4, h⟩ := iteS h
  refine J_last dX0_passing_16 fr3 (ixB_ok g4) (q := 17) rfl ?_
  refine J_iconst (x := 0) dX0_passing_17 (by decide) (q := 18) rfl ?_
  refine J_istore (lv' := [(4, .int 0), (0, .ref a0), (1, .int a1), (2, .int a2), (3, .int a3)]) dX0_passing_18 (by decide) rfl (q := 20) rfl ?_
  obtain ⟨o14, hlo14, h⟩ := bindS h
  refine J_pick [1, 2, 3, 4, 0] rfl ?_
  refine tX0_passing_w20 ha0 hlo14 ?_
  · intro so14 qo14
    rw [qo14] at h
    try dsimp only [Sum.elim_inl, Sum.elim_inr] at h
    refine J_lconst (x := 0) dX0_passing_94 (by decide) (q := 95) rfl ?_
    refine J_lstore (lv' := [(4, .long 0), (0, .ref a0), (2, .int a2)]) dX0_passing_95 (by decide) rfl (q := 97) rfl ?_
    refine J_iconst (x := 0) dX0_passing_97 (by decide) (q := 98) rfl ?_
    refine J_iload_n (z := 2) dX0_passing_98 rfl rfl (q := 99) rfl ?_
    refine J_mmax dX0_passing_99 pRX0_157 q_static_mmax q_init_math q_code_mmax (Nat.le_of_ble_eq_true rfl) (Nat.le_of_ble_eq_true rfl) (q := 102) rfl ?_
    refine J_istore (lv' := [(6, .int (maxI 0 a2)), (4, .long 0), (0, .ref a0), (2, .int a2)]) dX0_passing_102 (by decide) rfl (q := 104) rfl ?_
    obtain ⟨o18, hlo18, h⟩ := bindS h
    refine J_pick [2, 1, 0] rfl ?_
    refine tX0_passing_w104 ha0 hlo18 ?_
    · intro xo18_4 qo18
      rw [qo18] at h
      try dsimp only [Sum.elim_inl, Sum.elim_inr] at h
      refine J_lload (z := 0) dX0_passing_132 rfl (q := 134) rfl ?_
      refine J_l2i dX0_passing_134  (q := 135) rfl ?_
      have h := Option.some.inj h
      subst h
      exact J_ireturn dX0_passing_135 rfl rfl rfl

def fX1_takeFrom (a0 : Nat) (a1 : Nat) (σ : Mm) : Option (Mm) :=
  (gR σ a1 1).bind fun r1 => (gR σ a0 1).bind fun r2 => if cpB 0 0 (nI (ln r2)) (ln r1) (ln r2) = true then (gR σ a1 2).bind fun r4 => (gR σ a0 2).bind fun r5 => if cpB 0 0 (nI (ln r5)) (ln r4) (ln r5) = true then (gR σ a1 3).bind fun r7 => (gR σ a0 3).bind fun r8 => if cpB 0 0 (nI (ln r8)) (ln r7) (ln r8) = true then some (sI (sI (sA (sA (sA σ r2 (va_cpy (gI σ r1) (gI σ r2) (Int32.toNatClampNeg 0) (Int32.toNatClampNeg 0) (Int32.toNatClampNeg (nI (ln r2))))) r5 (va_cpy (gI (sA σ r2 (va_cpy (gI σ r1) (gI σ r2) (Int32.toNatClampNeg 0) (Int32.toNatClampNeg 0) (Int32.toNatClampNeg (nI (ln r2))))) r4) (gI (sA σ r2 (va_cpy (gI σ r1) (gI σ r2) (Int32.toNatClampNeg 0) (Int32.toNatClampNeg 0) (Int32.toNatClampNeg (nI (ln r2))))) r5) (Int32.toNatClampNeg 0) (Int32.toNatClampNeg 0) (Int32.toNatClampNeg (nI (ln r5))))) r8 (va_cpy (gI (sA (sA σ r2 (va_cpy (gI σ r1) (gI σ r2) (Int32.toNatClampNeg 0) (Int32.toNatClampNeg 0) (Int32.toNatClampNeg (nI (ln r2))))) r5 (va_cpy (gI (sA σ r2 (va_cpy (gI σ r1) (gI σ r2) (Int32.toNatClampNeg 0) (Int32.toNatClampNeg 0) (Int32.toNatClampNeg (nI (ln r2))))) r4) (gI (sA σ r2 (va_cpy (gI σ r1) (gI σ r2) (Int32.toNatClampNeg 0) (Int32.toNatClampNeg 0) (Int32.toNatClampNeg (nI (ln r2))))) r5) (Int32.toNatClampNeg 0) (Int32.toNatClampNeg 0) (Int32.toNatClampNeg (nI (ln r5))))) r7) (gI (sA (sA σ r2 (va_cpy (gI σ r1) (gI σ r2) (Int32.toNatClampNeg 0) (Int32.toNatClampNeg 0) (Int32.toNatClampNeg (nI (ln r2))))) r5 (va_cpy (gI (sA σ r2 (va_cpy (gI σ r1) (gI σ r2) (Int32.toNatClampNeg 0) (Int32.toNatClampNeg 0) (Int32.toNatClampNeg (nI (ln r2))))) r4) (gI (sA σ r2 (va_cpy (gI σ r1) (gI σ r2) (Int32.toNatClampNeg 0) (Int32.toNatClampNeg 0) (Int32.toNatClampNeg (nI (ln r2))))) r5) (Int32.toNatClampNeg 0) (Int32.toNatClampNeg 0) (Int32.toNatClampNeg (nI (ln r5))))) r8) (Int32.toNatClampNeg 0) (Int32.toNatClampNeg 0) (Int32.toNatClampNeg (nI (ln r8))))) a0 4 (gI (sA (sA (sA σ r2 (va_cpy (gI σ r1) (gI σ r2) (Int32.toNatClampNeg 0) (Int32.toNatClampNeg 0) (Int32.toNatClampNeg (nI (ln r2))))) r5 (va_cpy (gI (sA σ r2 (va_cpy (gI σ r1) (gI σ r2) (Int32.toNatClampNeg 0) (Int32.toNatClampNeg 0) (Int32.toNatClampNeg (nI (ln r2))))) r4) (gI (sA σ r2 (va_cpy (gI σ r1) (gI σ r2) (Int32.toNatClampNeg 0) (Int32.toNatClampNeg 0) (Int32.toNatClampNeg (nI (ln r2))))) r5) (Int32.toNatClampNeg 0) (Int32.toNatClampNeg 0) (Int32.toNatClampNeg (nI (ln r5))))) r8 (va_cpy (gI (sA (sA σ r2 (va_cpy (gI σ r1) (gI σ r2) (Int32.toNatClampNeg 0) (Int32.toNatClampNeg 0) (Int32.toNatClampNeg (nI (ln r2))))) r5 (va_cpy (gI (sA σ r2 (va_cpy (gI σ r1) (gI σ r2) (Int32.toNatClampNeg 0) (Int32.toNatClampNeg 0) (Int32.toNatClampNeg (nI (ln r2))))) r4) (gI (sA σ r2 (va_cpy (gI σ r1) (gI σ r2) (Int32.toNatClampNeg 0) (Int32.toNatClampNeg 0) (Int32.toNatClampNeg (nI (ln r2))))) r5) (Int32.toNatClampNeg 0) (Int32.toNatClampNeg 0) (Int32.toNatClampNeg (nI (ln r5))))) r7) (gI (sA (sA σ r2 (va_cpy (gI σ r1) (gI σ r2) (Int32.toNatClampNeg 0) (Int32.toNatClampNeg 0) (Int32.toNatClampNeg (nI (ln r2))))) r5 (va_cpy (gI (sA σ r2 (va_cpy (gI σ r1) (gI σ r2) (Int32.toNatClampNeg 0) (Int32.toNatClampNeg 0) (Int32.toNatClampNeg (nI (ln r2))))) r4) (gI (sA σ r2 (va_cpy (gI σ r1) (gI σ r2) (Int32.toNatClampNeg 0) (Int32.toNatClampNeg 0) (Int32.toNatClampNeg (nI (ln r2))))) r5) (Int32.toNatClampNeg 0) (Int32.toNatClampNeg 0) (Int32.toNatClampNeg (nI (ln r5))))) r8) (Int32.toNatClampNeg 0) (Int32.toNatClampNeg 0) (Int32.toNatClampNeg (nI (ln r8))))) a1 4)) a0 5 (gI (sI (sA (sA (sA σ r2 (va_cpy (gI σ r1) (gI σ r2) (Int32.toNatClampNeg 0) (Int32.toNatClampNeg 0) (Int32.toNatClampNeg (nI (ln r2))))) r5 (va_cpy (gI (sA σ r2 (va_cpy (gI σ r1) (gI σ r2) (Int32.toNatClampNeg 0) (Int32.toNatClampNeg 0) (Int32.toNatClampNeg (nI (ln r2))))) r4) (gI (sA σ r2 (va_cpy (gI σ r1) (gI σ r2) (Int32.toNatClampNeg 0) (Int32.toNatClampNeg 0) (Int32.toNatClampNeg (nI (ln r2))))) r5) (Int32.toNatClampNeg 0) (Int32.toNatClampNeg 0) (Int32.toNatClampNeg (nI (ln r5))))) r8 (va_cpy (gI (sA (sA σ r2 (va_cpy (gI σ r1) (gI σ r2) (Int32.toNatClampNeg 0) (Int32.toNatClampNeg 0) (Int32.toNatClampNeg (nI (ln r2))))) r5 (va_cpy (gI (sA σ r2 (va_cpy (gI σ r1) (gI σ r2) (Int32.toNatClampNeg 0) (Int32.toNatClampNeg 0) (Int32.toNatClampNeg (nI (ln r2))))) r4) (gI (sA σ r2 (va_cpy (gI σ r1) (gI σ r2) (Int32.toNatClampNeg 0) (Int32.toNatClampNeg 0) (Int32.toNatClampNeg (nI (ln r2))))) r5) (Int32.toNatClampNeg 0) (Int32.toNatClampNeg 0) (Int32.toNatClampNeg (nI (ln r5))))) r7) (gI (sA (sA σ r2 (va_cpy (gI σ r1) (gI σ r2) (Int32.toNatClampNeg 0) (Int32.toNatClampNeg 0) (Int32.toNatClampNeg (nI (ln r2))))) r5 (va_cpy (gI (sA σ r2 (va_cpy (gI σ r1) (gI σ r2) (Int32.toNatClampNeg 0) (Int32.toNatClampNeg 0) (Int32.toNatClampNeg (nI (ln r2))))) r4) (gI (sA σ r2 (va_cpy (gI σ r1) (gI σ r2) (Int32.toNatClampNeg 0) (Int32.toNatClampNeg 0) (Int32.toNatClampNeg (nI (ln r2))))) r5) (Int32.toNatClampNeg 0) (Int32.toNatClampNeg 0) (Int32.toNatClampNeg (nI (ln r5))))) r8) (Int32.toNatClampNeg 0) (Int32.toNatClampNeg 0) (Int32.toNatClampNeg (nI (ln r8))))) a0 4 (gI (sA (sA (sA σ r2 (va_cpy (gI σ r1) (gI σ r2) (Int32.toNatClampNeg 0) (Int32.toNatClampNeg 0) (Int32.toNatClampNeg (nI (ln r2))))) r5 (va_cpy (gI (sA σ r2 (va_cpy (gI σ r1) (gI σ r2) (Int32.toNatClampNeg 0) (Int32.toNatClampNeg 0) (Int32.toNatClampNeg (nI (ln r2))))) r4) (gI (sA σ r2 (va_cpy (gI σ r1) (gI σ r2) (Int32.toNatClampNeg 0) (Int32.toNatClampNeg 0) (Int32.toNatClampNeg (nI (ln r2))))) r5) (Int32.toNatClampNeg 0) (Int32.toNatClampNeg 0) (Int32.toNatClampNeg (nI (ln r5))))) r8 (va_cpy (gI (sA (sA σ r2 (va_cpy (gI σ r1) (gI σ r2) (Int32.toNatClampNeg 0) (Int32.toNatClampNeg 0) (Int32.toNatClampNeg (nI (ln r2))))) r5 (va_cpy (gI (sA σ r2 (va_cpy (gI σ r1) (gI σ r2) (Int32.toNatClampNeg 0) (Int32.toNatClampNeg 0) (Int32.toNatClampNeg (nI (ln r2))))) r4) (gI (sA σ r2 (va_cpy (gI σ r1) (gI σ r2) (Int32.toNatClampNeg 0) (Int32.toNatClampNeg 0) (Int32.toNatClampNeg (nI (ln r2))))) r5) (Int32.toNatClampNeg 0) (Int32.toNatClampNeg 0) (Int32.toNatClampNeg (nI (ln r5))))) r7) (gI (sA (sA σ r2 (va_cpy (gI σ r1) (gI σ r2) (Int32.toNatClampNeg 0) (Int32.toNatClampNeg 0) (Int32.toNatClampNeg (nI (ln r2))))) r5 (va_cpy (gI (sA σ r2 (va_cpy (gI σ r1) (gI σ r2) (Int32.toNatClampNeg 0) (Int32.toNatClampNeg 0) (Int32.toNatClampNeg (nI (ln r2))))) r4) (gI (sA σ r2 (va_cpy (gI σ r1) (gI σ r2) (Int32.toNatClampNeg 0) (Int32.toNatClampNeg 0) (Int32.toNatClampNeg (nI (ln r2))))) r5) (Int32.toNatClampNeg 0) (Int32.toNatClampNeg 0) (Int32.toNatClampNeg (nI (ln r5))))) r8) (Int32.toNatClampNeg 0) (Int32.toNatClampNeg 0) (Int32.toNatClampNeg (nI (ln r8))))) a1 4)) a1 5)) else none else none else none
set_option maxRecDepth 20000 in
set_option maxHeartbeats 2000000 in
theorem tX1_takeFrom {X : XS} {n : Nat} {σ : Mm} {a0 : Nat} {a1 : Nat} (ha0 : RT n a0 101) (ha1 : RT n a1 101) {res : Mm} (h : fX1_takeFrom a0 a1 σ = some res) : MT X yX1_takeFrom mX1_takeFrom 1 0 0 [.ref a0, .ref a1] n σ (n, none, res) := by
  unfold fX1_takeFrom at h
  refine MT_of (by decide +kernel) rfl (fun h => by cases h) (Nat.le_of_ble_eq_true rfl) ?_
  show J X mX1_takeFrom 1 0 0 (n, none, res) 0 [(0, .ref a0), (1, .ref a1)] [] n σ
  refine J_aload_n (z := 1) dX1_takeFrom_0 rfl rfl (q := 1) rfl ?_
  obtain ⟨r1, er1, h⟩ := bindS h
  refine J_getR dX1_takeFrom_1 lRX1_9 ha1 rfl (by decide) er1 (q := 4) rfl (fun fr1 => ?_)
  refine J_iconst (x := 0) dX1_takeFrom_4 (by decide) (q := 5) rfl ?_
  refine J_aload_n (z := 0) dX1_takeFrom_5 rfl rfl (q := 6) rfl ?_
  obtain ⟨r2, er2, h⟩ := bindS h
  refine J_getR dX1_takeFrom_6 lRX1_9 ha0 rfl (by decide) er2 (q := 9) rfl (fun fr2 => ?_)
  refine J_iconst (x := 0) dX1_takeFrom_9 (by decide) (q := 10) rfl ?_
  refine J_aload_n (z := 0) dX1_takeFrom_10 rfl rfl (q := 11) rfl ?_
  refine J_getR dX1_takeFrom_11 lRX1_9 ha0 rfl (by decide) er2 (q := 14) rfl (fun _ => ?_)
  refine J_alen (t := 0) dX1_takeFrom_14 fr2 (by decide) rfl (q := 15) rfl ?_
  obtain ⟨g3, h⟩ := iteS h
  refine J_copy dX1_takeFrom_15 cpRX1_25 fr1 fr2 g3 (Nat.le_of_ble_eq_true rfl) (Nat.le_of_ble_eq_true rfl) (q := 18) rfl ?_
  refine J_aload_n (z := 1) dX1_takeFrom_18 rfl rfl (q := 19) rfl ?_
  obtain ⟨r4, er4, h⟩ := bindS h
  refine J_getR dX1_takeFrom_19 lRX1_15 ha1 rfl (by decide) er4 (q := 22) rfl (fun fr4 => ?_)
  refine J_iconst (x := 0) dX1_takeFrom_22 (by decide) (q := 23) rfl ?_
  refine J_aload_n (z := 0) dX1_takeFrom_23 rfl rfl (q := 24) rfl ?_
  obtain ⟨r5, er5, h⟩ := bindS h
  refine J_getR dX1_takeFrom_24 lRX1_15 ha0 rfl (by decide) er5 (q := 27) rfl (fun fr5 => ?_)
  refine J_iconst (x := 0) dX1_takeFrom_27 (by decide) (q := 28) rfl ?_
  refine J_aload_n (z := 0) dX1_takeFrom_28 rfl rfl (q := 29) rfl ?_
  refine J_getR dX1_takeFrom_29 lRX1_15 ha0 rfl (by decide) er5 (q := 32) rfl (fun _ => ?_)
  refine J_alen (t := 0) dX1_takeFrom_32 fr5 (by decide) rfl (q := 33) rfl ?_
  obtain ⟨g6, h⟩ := iteS h
  refine J_copy dX1_takeFrom_33 cpRX1_25 fr4 fr5 g6 (Nat.le_of_ble_eq_true rfl) (Nat.le_of_ble_eq_true rfl) (q := 36) rfl ?_
  refine J_aload_n (z := 1) dX1_takeFrom_36 rfl rfl (q := 37) rfl ?_
  obtain ⟨r7, er7, h⟩ := bindS h
  refine J_getR dX1_takeFrom_37 lRX1_18 ha1 rfl (by decide) er7 (q := 40) rfl (fun fr7 => ?_)
  refine J_iconst (x := 0) dX1_takeFrom_40 (by decide) (q := 41) rfl ?_
  refine J_aload_n (z := 0) dX1_takeFrom_41 rfl rfl (q := 42) rfl ?_
  obtain ⟨r8, er8, h⟩ := bindS h
  refine J_getR dX1_takeFrom_42 lRX1_18 ha0 rfl (by decide) er8 (q := 45) rfl (fun fr8 => ?_)
  refine J_iconst (x := 0) dX1_takeFrom_45 (by decide) (q := 46) rfl ?_
  refine J_aload_n (z := 0) dX1_takeFrom_46 rfl rfl (q := 47) rfl ?_
  refine J_getR dX1_takeFrom_47 lRX1_18 ha0 rfl (by decide) er8 (q := 50) rfl (fun _ => ?_)
  refine J_alen (t := 0) dX1_takeFrom_50 fr8 (by decide) rfl (q := 51) rfl ?_
  obtain ⟨g9, h⟩ := iteS h
  refine J_copy dX1_takeFrom_51 cpRX1_25 fr7 fr8 g9 (Nat.le_of_ble_eq_true rfl) (Nat.le_of_ble_eq_true rfl) (q := 54) rfl ?_
  refine J_aload_n (z := 0) dX1_takeFrom_54 rfl rfl (q := 55) rfl ?_
  refine J_aload_n (z := 1) dX1_takeFrom_55 rfl rfl (q := 56) rfl ?_
  refine J_getI dX1_takeFrom_56 lRX1_31 ha1 rfl (q := 59) rfl ?_
  refine J_putI dX1_takeFrom_59 lRX1_31 (fun h => by cases h) ha0 rfl (q := 62) rfl ?_
  refine J_aload_n (z := 0) dX1_takeFrom_62 rfl rfl (q := 63) rfl ?_
  refine J_aload_n (z := 1) dX1_takeFrom_63 rfl rfl (q := 64) rfl ?_
  refine J_getI dX1_takeFrom_64 lRX1_35 ha1 rfl (q := 67) rfl ?_
  refine J_putI dX1_takeFrom_67 lRX1_35 (fun h => by cases h) ha0 rfl (q := 70) rfl ?_
  have h := Option.some.inj h
  subst h
  exact J_return dX1_takeFrom_70 rfl rfl

def fX1_height (a0 : Nat) (σ : Mm) : Option (Int32) :=
  (gR σ a0 1).bind fun r1 => if ixB 1 (ln r1) = true then some (gI σ r1 (Int32.toNatClampNeg 1)) else none
set_option maxRecDepth 20000 in
set_option maxHeartbeats 2000000 in
theorem tX1_height {X : XS} {n : Nat} {σ : Mm} {a0 : Nat} (ha0 : RT n a0 101) {res : Int32} (h : fX1_height a0 σ = some res) : MT X yX1_height mX1_height 1 0 0 [.ref a0] n σ (n, some (.int res), σ) := by
  unfold fX1_height at h
  refine MT_of (by decide +kernel) rfl (fun h => by cases h) (Nat.le_of_ble_eq_true rfl) ?_
  show J X mX1_height 1 0 0 (n, some (.int res), σ) 0 [(0, .ref a0)] [] n σ
  refine J_aload_n (z := 0) dX1_height_0 rfl rfl (q := 1) rfl ?_
  obtain ⟨r1, er1, h⟩ := bindS h
  refine J_getR dX1_height_1 lRX1_9 ha0 rfl (by decide) er1 (q := 4) rfl (fun fr1 => ?_)
  refine J_iconst (x := 1) dX1_height_4 (by decide) (q := 5) rfl ?_
  obtain ⟨g2, h⟩ := iteS h
  refine J_iald dX1_height_5 fr1 (ixB_ok g2) (q := 6) rfl ?_
  have h := Option.some.inj h
  subst h
  exact J_ireturn dX1_height_6 rfl rfl rfl

def fX1_coldAtFirst (a0 : Nat) (σ : Mm) : Option (Int32) :=
  (gR σ a0 1).bind fun r1 => if ixB 2 (ln r1) = true then some (gI σ r1 (Int32.toNatClampNeg 2)) else none
set_option maxRecDepth 20000 in
set_option maxHeartbeats 2000000 in
theorem tX1_coldAtFirst {X : XS} {n : Nat} {σ : Mm} {a0 : Nat} (ha0 : RT n a0 101) {res : Int32} (h : fX1_coldAtFirst a0 σ = some res) : MT X yX1_coldAtFirst mX1_coldAtFirst 1 0 0 [.ref a0] n σ (n, some (.int res), σ) := by
  unfold fX1_coldAtFirst at h
  refine MT_of (by decide +kernel) rfl (fun h => by cases h) (Nat.le_of_ble_eq_true rfl) ?_
  show J X mX1_coldAtFirst 1 0 0 (n, some (.int res), σ) 0 [(0, .ref a0)] [] n σ
  refine J_aload_n (z := 0) dX1_coldAtFirst_0 rfl rfl (q := 1) rfl ?_
  obtain ⟨r1, er1, h⟩ := bindS h
  refine J_getR dX1_coldAtFirst_1 lRX1_9 ha0 rfl (by decide) er1 (q := 4) rfl (fun fr1 => ?_)
  refine J_iconst (x := 2) dX1_coldAtFirst_4 (by decide) (q := 5) rfl ?_
  obtain ⟨g2, h⟩ := iteS h
  refine J_iald dX1_coldAtFirst_5 fr1 (ixB_ok g2) (q := 6) rfl ?_
  have h := Option.some.inj h
  subst h
  exact J_ireturn dX1_coldAtFirst_6 rfl rfl rfl

def fX1_pageDepth (a0 : Nat) (a1 : Int32) (σ : Mm) : Option (Int32) :=
  (fX1_pageItem a0 a1 1 σ).bind fun vk1 => some vk1
set_option maxRecDepth 20000 in
set_option maxHeartbeats 2000000 in
theorem tX1_pageDepth {X : XS} {n : Nat} {σ : Mm} {a0 : Nat} {a1 : Int32} (ha0 : RT n a0 101) {res : Int32} (h : fX1_pageDepth a0 a1 σ = some res) : MT X yX1_pageDepth mX1_pageDepth 2 0 0 [.ref a0, .int a1] n σ (n, some (.int res), σ) := by
  unfold fX1_pageDepth at h
  refine MT_of (by decide +kernel) rfl (fun h => by cases h) (Nat.le_of_ble_eq_true rfl) ?_
  show J X mX1_pageDepth 2 0 0 (n, some (.int res), σ) 0 [(0, .ref a0), (1, .int a1)] [] n σ
  refine J_aload_n (z := 0) dX1_pageDepth_0 rfl rfl (q := 1) rfl ?_
  refine J_iload_n (z := 1) dX1_pageDepth_1 rfl rfl (q := 2) rfl ?_
  refine J_iconst (x := 1) dX1_pageDepth_2 (by decide) (q := 3) rfl ?_
  obtain ⟨vk1, hk1, h⟩ := bindS h
  refine J_cVi (as := [.int a1, .int 1]) dX1_pageDepth_3 mRX1_42 ha0 (tX1_pageItem ha0 hk1) rfl (Nat.le_of_ble_eq_true rfl) (Nat.le_of_ble_eq_true rfl) (Nat.le_of_ble_eq_true rfl) (q := 6) rfl ?_
  intro bk1
  have h := Option.some.inj h
  subst h
  exact J_ireturn dX1_pageDepth_6 rfl rfl rfl

def fX1_pageSays (a0 : Nat) (a1 : Int32) (σ : Mm) : Option (Int32) :=
  (fX1_pageItem a0 a1 3 σ).bind fun vk1 => some vk1
set_option maxRecDepth 20000 in
set_option maxHeartbeats 2000000 in
theorem tX1_pageSays {X : XS} {n : Nat} {σ : Mm} {a0 : Nat} {a1 : Int32} (ha0 : RT n a0 101) {res : Int32} (h : fX1_pageSays a0 a1 σ = some res) : MT X yX1_pageSays mX1_pageSays 2 0 0 [.ref a0, .int a1] n σ (n, some (.int res), σ) := by
  unfold fX1_pageSays at h
  refine MT_of (by decide +kernel) rfl (fun h => by cases h) (Nat.le_of_ble_eq_true rfl) ?_
  show J X mX1_pageSays 2 0 0 (n, some (.int res), σ) 0 [(0, .ref a0), (1, .int a1)] [] n σ
  refine J_aload_n (z := 0) dX1_pageSays_0 rfl rfl (q := 1) rfl ?_
  refine J_iload_n (z := 1) dX1_pageSays_1 rfl rfl (q := 2) rfl ?_
  refine J_iconst (x := 3) dX1_pageSays_2 (by decide) (q := 3) rfl ?_
  obtain ⟨vk1, hk1, h⟩ := bindS h
  refine J_cVi (as := [.int a1, .int 3]) dX1_pageSays_3 mRX1_42 ha0 (tX1_pageItem ha0 hk1) rfl (Nat.le_of_ble_eq_true rfl) (Nat.le_of_ble_eq_true rfl) (Nat.le_of_ble_eq_true rfl) (q := 6) rfl ?_
  intro bk1
  have h := Option.some.inj h
  subst h
  exact J_ireturn dX1_pageSays_6 rfl rfl rfl

def fX1_readerCell (a0 : Nat) (a1 : Int32) (σ : Mm) : Option (Int32) :=
  (fX1_readerItem a0 a1 0 σ).bind fun vk1 => some vk1
set_option maxRecDepth 20000 in
set_option maxHeartbeats 2000000 in
theorem tX1_readerCell {X : XS} {n : Nat} {σ : Mm} {a0 : Nat} {a1 : Int32} (ha0 : RT n a0 101) {res : Int32} (h : fX1_readerCell a0 a1 σ = some res) : MT X yX1_readerCell mX1_readerCell 2 0 0 [.ref a0, .int a1] n σ (n, some (.int res), σ) := by
  unfold fX1_readerCell at h
  refine MT_of (by decide +kernel) rfl (fun h => by cases h) (Nat.le_of_ble_eq_true rfl) ?_
  show J X mX1_readerCell 2 0 0 (n, some (.int res), σ) 0 [(0, .ref a0), (1, .int a1)] [] n σ
  refine J_aload_n (z := 0) dX1_readerCell_0 rfl rfl (q := 1) rfl ?_
  refine J_iload_n (z := 1) dX1_readerCell_1 rfl rfl (q := 2) rfl ?_
  refine J_iconst (x := 0) dX1_readerCell_2 (by decide) (q := 3) rfl ?_
  obtain ⟨vk1, hk1, h⟩ := bindS h
  refine J_cVi (as := [.int a1, .int 0]) dX1_readerCell_3 mRX1_46 ha0 (tX1_readerItem ha0 hk1) rfl (Nat.le_of_ble_eq_true rfl) (Nat.le_of_ble_eq_true rfl) (Nat.le_of_ble_eq_true rfl) (q := 6) rfl ?_
  intro bk1
  have h := Option.some.inj h
  subst h
  exact J_ireturn dX1_readerCell_6 rfl rfl rfl

def fX1_need (a0 : Nat) (a1 : Int32) (σ : Mm) : Option (Int32) :=
  (fX1_readerItem a0 a1 3 σ).bind fun vk1 => some vk1
set_option maxRecDepth 20000 in
set_option maxHeartbeats 2000000 in
theorem tX1_need {X : XS} {n : Nat} {σ : Mm} {a0 : Nat} {a1 : Int32} (ha0 : RT n a0 101) {res : Int32} (h : fX1_need a0 a1 σ = some res) : MT X yX1_need mX1_need 2 0 0 [.ref a0, .int a1] n σ (n, some (.int res), σ) := by
  unfold fX1_need at h
  refine MT_of (by decide +kernel) rfl (fun h => by cases h) (Nat.le_of_ble_eq_true rfl) ?_
  show J X mX1_need 2 0 0 (n, some (.int res), σ) 0 [(0, .ref a0), (1, .int a1)] [] n σ
  refine J_aload_n (z := 0) dX1_need_0 rfl rfl (q := 1) rfl ?_
  refine J_iload_n (z := 1) dX1_need_1 rfl rfl (q := 2) rfl ?_
  refine J_iconst (x := 3) dX1_need_2 (by decide) (q := 3) rfl ?_
  obtain ⟨vk1, hk1, h⟩ := bindS h
  refine J_cVi (as := [.int a1, .int 3]) dX1_need_3 mRX1_46 ha0 (tX1_readerItem ha0 hk1) rfl (Nat.le_of_ble_eq_true rfl) (Nat.le_of_ble_eq_true rfl) (Nat.le_of_ble_eq_true rfl) (q := 6) rfl ?_
  intro bk1
  have h := Option.some.inj h
  subst h
  exact J_ireturn dX1_need_6 rfl rfl rfl

def fX1_cellsFit_l2 (a0 : Nat) (a1 : Int32) (σ : Mm) : Option (Int32 ⊕ (Int32 ⊕ Unit)) :=
  if (gI σ a0 4) ≤ a1 then some (Sum.inr (Sum.inr ())) else (fX1_pageCell a0 a1 σ).bind fun vk2 => (fX1_hasCell a0 vk2 σ).bind fun vk3 => if vk3 = 0 then some (Sum.inr (Sum.inl 0)) else some (Sum.inl (a1 + 1))
set_option maxRecDepth 20000 in
set_option maxHeartbeats 2000000 in
theorem tX1_cellsFit_l2 {X : XS} {n : Nat} {σ : Mm} {F : Nat × Option Value × Mm} {a0 : Nat} {a1 : Int32} (ha0 : RT n a0 101) {res : Int32 ⊕ (Int32 ⊕ Unit)} (h : fX1_cellsFit_l2 a0 a1 σ = some res) (hc : ∀ (b1 : Int32), res = .inl b1 → J X mX1_cellsFit 3 0 0 F 2 [(0, .ref a0), (1, .int b1)] [] n σ) (he0 : res = .inr (Sum.inr ()) → J X mX1_cellsFit 3 0 0 F 30 [(0, .ref a0)] [] n σ) (hr : ∀ (v : Int32), res = .inr (Sum.inl v) → F = (n, some (.int v), σ)) : J X mX1_cellsFit 3 0 0 F 2 [(0, .ref a0), (1, .int a1)] [] n σ := by
  unfold fX1_cellsFit_l2 at h
  refine J_iload_n (z := 1) dX1_cellsFit_2 rfl rfl (q := 3) rfl ?_
  refine J_aload_n (z := 0) dX1_cellsFit_3 rfl rfl (q := 4) rfl ?_
  refine J_getI dX1_cellsFit_4 lRX1_31 ha0 rfl (q := 7) rfl ?_
  refine J_icmp_ge (tgt := 30) dX1_cellsFit_7 (by decide) (q := 10) rfl (fun c0 => ?_) (fun c0 => ?_)
  · rw [if_pos c0] at h
    have h := Option.some.inj h
    refine J_pick [0] rfl ?_
    exact he0  h.symm
  · rw [if_neg c0] at h
    refine J_aload_n (z := 0) dX1_cellsFit_10 rfl rfl (q := 11) rfl ?_
    refine J_aload_n (z := 0) dX1_cellsFit_11 rfl rfl (q := 12) rfl ?_
    refine J_iload_n (z := 1) dX1_cellsFit_12 rfl rfl (q := 13) rfl ?_
    obtain ⟨vk2, hk2, h⟩ := bindS h
    refine J_cVi (as := [.int a1]) dX1_cellsFit_13 mRX1_152 ha0 (tX1_pageCell ha0 hk2) rfl (Nat.le_of_ble_eq_true rfl) (Nat.le_of_ble_eq_true rfl) (Nat.le_of_ble_eq_true rfl) (q := 16) rfl ?_
    intro bk2
    obtain ⟨vk3, hk3, h⟩ := bindS h
    refine J_cVi (as := [.int vk2]) dX1_cellsFit_16 mRX1_155 ha0 (tX1_hasCell ha0 hk3) rfl (Nat.le_of_ble_eq_true rfl) (Nat.le_of_ble_eq_true rfl) (Nat.le_of_ble_eq_true rfl) (q := 19) rfl ?_
    intro bk3
    refine J_if_ne (tgt := 24) dX1_cellsFit_19 (by decide) (q := 22) rfl (fun c3 => ?_) (fun c3 => ?_)
    · rw [if_neg c3] at h
      refine J_iinc (z := 1) (y := (a1 + 1)) (lv' := [(1, .int (a1 + 1)), (0, .ref a0)]) dX1_cellsFit_24 rfl rfl (by decide) rfl (q := 27) rfl ?_
      refine J_goto (tgt := 2) dX1_cellsFit_27 (by decide) ?_
      have h := Option.some.inj h
      refine J_pick [1, 0] rfl ?_
      exact hc _ h.symm
    · rw [if_pos c3] at h
      refine J_iconst (x := 0) dX1_cellsFit_22 (by decide) (q := 23) rfl ?_
      have h := Option.some.inj h
      exact J_ireturn dX1_cellsFit_23 rfl rfl (hr _ h.symm)

def fX1_cellsFit_w2 (a0 : Nat) (a1 : Int32) (σ : Mm) : Option (Int32 ⊕ Unit) :=
  wh (fun a : Int32 => fX1_cellsFit_l2 a0 a σ) BIG a1
set_option maxRecDepth 20000 in
set_option maxHeartbeats 2000000 in
theorem tX1_cellsFit_w2 {X : XS} {n : Nat} {σ : Mm} {F : Nat × Option Value × Mm} {a0 : Nat} {a1 : Int32} (ha0 : RT n a0 101) {res : Int32 ⊕ Unit} (h : fX1_cellsFit_w2 a0 a1 σ = some res) (he0 : res = (Sum.inr ()) → J X mX1_cellsFit 3 0 0 F 30 [(0, .ref a0)] [] n σ) (hr : ∀ (v : Int32), res = (Sum.inl v) → F = (n, some (.int v), σ)) : J X mX1_cellsFit 3 0 0 F 2 [(0, .ref a0), (1, .int a1)] [] n σ := by
  unfold fX1_cellsFit_w2 at h
  refine wh_rule (P := fun a : Int32 => J X mX1_cellsFit 3 0 0 F 2 [(0, .ref a0), (1, .int a)] [] n σ) (K := fun b => b = res) ?_ _ _ _ h rfl
  intro a
  refine ⟨fun a2 hb hP => ?_, fun b hb hK => ?_⟩
  · exact tX1_cellsFit_l2 ha0 hb (fun _ e => by cases e; exact hP) (fun e => by cases e) (fun _ e => by cases e)
  · subst hK
    exact tX1_cellsFit_l2 ha0 hb (fun _ e => by cases e) (fun e => he0 (Sum.inr.inj e)) (fun v0 e => hr v0 (Sum.inr.inj e))

def fX1_cellsFit_l32 (a0 : Nat) (a1 : Int32) (σ : Mm) : Option (Int32 ⊕ (Int32)) :=
  if (gI σ a0 5) ≤ a1 then some (Sum.inr 1) else (fX1_readerCell a0 a1 σ).bind fun vk7 => (fX1_hasCell a0 vk7 σ).bind fun vk8 => if vk8 = 0 then some (Sum.inr 0) else some (Sum.inl (a1 + 1))
set_option maxRecDepth 20000 in
set_option maxHeartbeats 2000000 in
theorem tX1_cellsFit_l32 {X : XS} {n : Nat} {σ : Mm} {F : Nat × Option Value × Mm} {a0 : Nat} {a1 : Int32} (ha0 : RT n a0 101) {res : Int32 ⊕ (Int32)} (h : fX1_cellsFit_l32 a0 a1 σ = some res) (hc : ∀ (b1 : Int32), res = .inl b1 → J X mX1_cellsFit 3 0 0 F 32 [(0, .ref a0), (1, .int b1)] [] n σ) (hr : ∀ (v : Int32), res = .inr v → F = (n, some (.int v), σ)) : J X mX1_cellsFit 3 0 0 F 32 [(0, .ref a0), (1, .int a1)] [] n σ := by
  unfold fX1_cellsFit_l32 at h
  refine J_iload_n (z := 1) dX1_cellsFit_32 rfl rfl (q := 33) rfl ?_
  refine J_aload_n (z := 0) dX1_cellsFit_33 rfl rfl (q := 34) rfl ?_
  refine J_getI dX1_cellsFit_34 lRX1_35 ha0 rfl (q := 37) rfl ?_
  refine J_icmp_ge (tgt := 60) dX1_cellsFit_37 (by decide) (q := 40) rfl (fun c5 => ?_) (fun c5 => ?_)
  · rw [if_pos c5] at h
    refine J_iconst (x := 1) dX1_cellsFit_60 (by decide) (q := 61) rfl ?_
    have h := Option.some.inj h
    exact J_ireturn dX1_cellsFit_61 rfl rfl (hr _ h.symm)
  · rw [if_neg c5] at h
    refine J_aload_n (z := 0) dX1_cellsFit_40 rfl rfl (q := 41) rfl ?_
    refine J_aload_n (z := 0) dX1_cellsFit_41 rfl rfl (q := 42) rfl ?_
    refine J_iload_n (z := 1) dX1_cellsFit_42 rfl rfl (q := 43) rfl ?_
    obtain ⟨vk7, hk7, h⟩ := bindS h
    refine J_cVi (as := [.int a1]) dX1_cellsFit_43 mRX1_158 ha0 (tX1_readerCell ha0 hk7) rfl (Nat.le_of_ble_eq_true rfl) (Nat.le_of_ble_eq_true rfl) (Nat.le_of_ble_eq_true rfl) (q := 46) rfl ?_
    intro bk7
    obtain ⟨vk8, hk8, h⟩ := bindS h
    refine J_cVi (as := [.int vk7]) dX1_cellsFit_46 mRX1_155 ha0 (tX1_hasCell ha0 hk8) rfl (Nat.le_of_ble_eq_true rfl) (Nat.le_of_ble_eq_true rfl) (Nat.le_of_ble_eq_true rfl) (q := 49) rfl ?_
    intro bk8
    refine J_if_ne (tgt := 54) dX1_cellsFit_49 (by decide) (q := 52) rfl (fun c8 => ?_) (fun c8 => ?_)
    · rw [if_neg c8] at h
      refine J_iinc (z := 1) (y := (a1 + 1)) (lv' := [(1, .int (a1 + 1)), (0, .ref a0)]) dX1_cellsFit_54 rfl rfl (by decide) rfl (q := 57) rfl ?_
      refine J_goto (tgt := 32) dX1_cellsFit_57 (by decide) ?_
      have h := Option.some.inj h
      refine J_pick [1, 0] rfl ?_
      exact hc _ h.symm
    · rw [if_pos c8] at h
      refine J_iconst (x := 0) dX1_cellsFit_52 (by decide) (q := 53) rfl ?_
      have h := Option.some.inj h
      exact J_ireturn dX1_cellsFit_53 rfl rfl (hr _ h.symm)

def fX1_cellsFit_w32 (a0 : Nat) (a1 : Int32) (σ : Mm) : Option (Int32) :=
  wh (fun a : Int32 => fX1_cellsFit_l32 a0 a σ) BIG a1
set_option maxRecDepth 20000 in
set_option maxHeartbeats 2000000 in
theorem tX1_cellsFit_w32 {X : XS} {n : Nat} {σ : Mm} {F : Nat × Option Value × Mm} {a0 : Nat} {a1 : Int32} (ha0 : RT n a0 101) {res : Int32} (h : fX1_cellsFit_w32 a0 a1 σ = some res) (hr : ∀ (v : Int32), res = v → F = (n, some (.int v), σ)) : J X mX1_cellsFit 3 0 0 F 32 [(0, .ref a0), (1, .int a1)] [] n σ := by
  unfold fX1_cellsFit_w32 at h
  refine wh_rule (P := fun a : Int32 => J X mX1_cellsFit 3 0 0 F 32 [(0, .ref a0), (1, .int a)] [] n σ) (K := fun b => b = res) ?_ _ _ _ h rfl
  intro a
  refine ⟨fun a2 hb hP => ?_, fun b hb hK => ?_⟩
  · exact tX1_cellsFit_l32 ha0 hb (fun _ e => by cases e; exact hP) (fun _ e => by cases e)
  · subst hK
    exact tX1_cellsFit_l32 ha0 hb (fun _ e => by cases e) (fun v0 e => hr v0 (Sum.inr.inj e))

def fX1_cellsFit (a0 : Nat) (σ : Mm) : Option (Int32) :=
  (fX1_cellsFit_w2 a0 0 σ).bind (Sum.elim (fun eo50 => some eo50) (fun eo51 => (fX1_cellsFit_w32 a0 0 σ).bind (fun o10 => some o10)))
set_option maxRecDepth 20000 in
set_option maxHeartbeats 2000000 in
theorem tX1_cellsFit {X : XS} {n : Nat} {σ : Mm} {a0 : Nat} (ha0 : RT n a0 101) {res : Int32} (h : fX1_cellsFit a0 σ = some res) : MT X yX1_cellsFit mX1_cellsFit 3 0 0 [.ref a0] n σ (n, some (.int res), σ) := by
  unfold fX1_cellsFit at h
  refine MT_of (by decide +kernel) rfl (fun h => by cases h) (Nat.le_of_ble_eq_true rfl) ?_
  show J X mX1_cellsFit 3 0 0 (n, some (.int res), σ) 0 [(0, .ref a0)] [] n σ
  refine J_iconst (x := 0) dX1_cellsFit_0 (by decide) (q := 1) rfl ?_
  refine J_istore_n (lv' := [(1, .int 0), (0, .ref a0)]) dX1_cellsFit_1 rfl (by decide) rfl (q := 2) rfl ?_
  obtain ⟨o5, hlo5, h⟩ := bindS h
  refine J_pick [1, 0] rfl ?_
  refine tX1_cellsFit_w2 ha0 hlo5 ?_ ?_
  · intro qo5
    rw [qo5] at h
    try dsimp only [Sum.elim_inl, Sum.elim_inr] at h
    refine J_iconst (x := 0) dX1_cellsFit_30 (by decide) (q := 31) rfl ?_
    refine J_istore_n (lv' := [(1, .int 0), (0, .ref a0)]) dX1_cellsFit_31 rfl (by decide) rfl (q := 32) rfl ?_
    obtain ⟨o10, hlo10, h⟩ := bindS h
    refine J_pick [1, 0] rfl ?_
    refine tX1_cellsFit_w32 ha0 hlo10 ?_
    · intro vo10 qo10
      rw [qo10] at h
      try dsimp only [Sum.elim_inl, Sum.elim_inr] at h
      have h := Option.some.inj h
      subst h
      rfl
  · intro vo5 qo5
    rw [qo5] at h
    try dsimp only [Sum.elim_inl, Sum.elim_inr] at h
    have h := Option.some.inj h
    subst h
    rfl

def fX7_next_l0 (a0 : Nat) (σ : Mm) : Option (Mm ⊕ (Mm)) :=
  if (gI σ a0 1) ≤ (gI σ a0 2) then some (Sum.inr σ) else (gR σ a0 0).bind fun r2 => if ixB (gI σ a0 2) (ln r2) = true then if (gI σ r2 (Int32.toNatClampNeg (gI σ a0 2))) = 32 then some (Sum.inl (sI σ a0 2 ((gI σ a0 2) + 1))) else some (Sum.inr σ) else none
set_option maxRecDepth 20000 in
set_option maxHeartbeats 2000000 in
theorem tX7_next_l0 {X : XS} {n : Nat} {σ : Mm} {F : Nat × Option Value × Mm} {a0 : Nat} (ha0 : RT n a0 107) {res : Mm ⊕ (Mm)} (h : fX7_next_l0 a0 σ = some res) (hc : ∀  (s : Mm), res = .inl s → J X mX7_next 1 0 0 F 0 [(0, .ref a0)] [] n s) (he0 : ∀  (s : Mm), res = .inr s → J X mX7_next 1 0 0 F 38 [(0, .ref a0)] [] n s) : J X mX7_next 1 0 0 F 0 [(0, .ref a0)] [] n σ := by
  unfold fX7_next_l0 at h
  refine J_aload_n (z := 0) dX7_next_0 rfl rfl (q := 1) rfl ?_
  refine J_getI dX7_next_1 lRX7_22 ha0 rfl (q := 4) rfl ?_
  refine J_aload_n (z := 0) dX7_next_4 rfl rfl (q := 5) rfl ?_
  refine J_getI dX7_next_5 lRX7_19 ha0 rfl (q := 8) rfl ?_
  refine J_icmp_ge (tgt := 38) dX7_next_8 (by decide) (q := 11) rfl (fun c0 => ?_) (fun c0 => ?_)
  · rw [if_pos c0] at h
    have h := Option.some.inj h
    refine J_pick [0] rfl ?_
    exact he0 _ h.symm
  · rw [if_neg c0] at h
    refine J_aload_n (z := 0) dX7_next_11 rfl rfl (q := 12) rfl ?_
    obtain ⟨r2, er2, h⟩ := bindS h
    refine J_getR dX7_next_12 lRX7_9 ha0 rfl (by decide) er2 (q := 15) rfl (fun fr2 => ?_)
    refine J_aload_n (z := 0) dX7_next_15 rfl rfl (q := 16) rfl ?_
    refine J_getI dX7_next_16 lRX7_22 ha0 rfl (q := 19) rfl ?_
    obtain ⟨g3, h⟩ := iteS h
    refine J_iald dX7_next_19 fr2 (ixB_ok g3) (q := 20) rfl ?_
    refine J_bipush (x := 32) dX7_next_20 (by decide) (q := 22) rfl ?_
    refine J_icmp_ne (tgt := 38) dX7_next_22 (by decide) (q := 25) rfl (fun c3 => ?_) (fun c3 => ?_)
    · rw [if_neg c3] at h
      have h := Option.some.inj h
      refine J_pick [0] rfl ?_
      exact he0 _ h.symm
    · rw [if_pos c3] at h
      refine J_aload_n (z := 0) dX7_next_25 rfl rfl (q := 26) rfl ?_
      refine J_dup dX7_next_26 rfl (q := 27) rfl ?_
      refine J_getI dX7_next_27 lRX7_22 ha0 rfl (q := 30) rfl ?_
      refine J_iconst (x := 1) dX7_next_30 (by decide) (q := 31) rfl ?_
      refine J_iadd dX7_next_31  (q := 32) rfl ?_
      refine J_putI dX7_next_32 lRX7_22 (fun h => by cases h) ha0 rfl (q := 35) rfl ?_
      refine J_goto (tgt := 0) dX7_next_35 (by decide) ?_
      have h := Option.some.inj h
      refine J_pick [0] rfl ?_
      exact hc _ h.symm

def fX7_next_w0 (a0 : Nat) (σ : Mm) : Option (Mm) :=
  wh (fun a : Mm => fX7_next_l0 a0 a) BIG σ
set_option maxRecDepth 20000 in
set_option maxHeartbeats 2000000 in
theorem tX7_next_w0 {X : XS} {n : Nat} {σ : Mm} {F : Nat × Option Value × Mm} {a0 : Nat} (ha0 : RT n a0 107) {res : Mm} (h : fX7_next_w0 a0 σ = some res) (he0 : ∀  (s : Mm), res = s → J X mX7_next 1 0 0 F 38 [(0, .ref a0)] [] n s) : J X mX7_next 1 0 0 F 0 [(0, .ref a0)] [] n σ := by
  unfold fX7_next_w0 at h
  refine wh_rule (P := fun a : Mm => J X mX7_next 1 0 0 F 0 [(0, .ref a0)] [] n a) (K := fun b => b = res) ?_ _ _ _ h rfl
  intro a
  refine ⟨fun a2 hb hP => ?_, fun b hb hK => ?_⟩
  · exact tX7_next_l0 ha0 hb (fun _ e => by cases e; exact hP) (fun _ e => by cases e)
  · subst hK
    exact tX7_next_l0 ha0 hb (fun _ e => by cases e) (fun v0 e => he0 v0 (Sum.inr.inj e))

def fX7_next_b38 (a0 : Nat) (σ : Mm) : Option (Int32 × Mm) :=
  if (gI σ a0 1) ≤ (gI σ a0 2) then some ((-1), σ) else (gR σ a0 0).bind fun r7 => if ixB (gI σ a0 2) (ln r7) = true then some ((gI σ r7 (Int32.toNatClampNeg (gI σ a0 2))), σ) else none
set_option maxRecDepth 20000 in
set_option maxHeartbeats 2000000 in
theorem tX7_next_b38 {X : XS} {n : Nat} {σ : Mm} {a0 : Nat} (ha0 : RT n a0 107) {res : Int32 × Mm} (h : fX7_next_b38 a0 σ = some res) : J X mX7_next 1 0 0 (n, some (.int res.1), res.2) 38 [(0, .ref a0)] [] n σ := by
  unfold fX7_next_b38 at h
  refine J_aload_n (z := 0) dX7_next_38 rfl rfl (q := 39) rfl ?_
  refine J_getI dX7_next_39 lRX7_22 ha0 rfl (q := 42) rfl ?_
  refine J_aload_n (z := 0) dX7_next_42 rfl rfl (q := 43) rfl ?_
  refine J_getI dX7_next_43 lRX7_19 ha0 rfl (q := 46) rfl ?_
  refine J_icmp_ge (tgt := 61) dX7_next_46 (by decide) (q := 49) rfl (fun c5 => ?_) (fun c5 => ?_)
  · rw [if_pos c5] at h
    refine J_iconst (x := (-1)) dX7_next_61 (by decide) (q := 62) rfl ?_
    have h := Option.some.inj h
    subst h
    exact J_ireturn dX7_next_62 rfl rfl rfl
  · rw [if_neg c5] at h
    refine J_aload_n (z := 0) dX7_next_49 rfl rfl (q := 50) rfl ?_
    obtain ⟨r7, er7, h⟩ := bindS h
    refine J_getR dX7_next_50 lRX7_9 ha0 rfl (by decide) er7 (q := 53) rfl (fun fr7 => ?_)
    refine J_aload_n (z := 0) dX7_next_53 rfl rfl (q := 54) rfl ?_
    refine J_getI dX7_next_54 lRX7_22 ha0 rfl (q := 57) rfl ?_
    obtain ⟨g8, h⟩ := iteS h
    refine J_iald dX7_next_57 fr7 (ixB_ok g8) (q := 58) rfl ?_
    refine J_goto (tgt := 62) dX7_next_58 (by decide) ?_
    have h := Option.some.inj h
    subst h
    exact J_ireturn dX7_next_62 rfl rfl rfl

def fX7_next (a0 : Nat) (σ : Mm) : Option (Int32 × Mm) :=
  (fX7_next_w0 a0 σ).bind (fun o5 => (fun so5 => fX7_next_b38 a0 so5) o5)
set_option maxRecDepth 20000 in
set_option maxHeartbeats 2000000 in
theorem tX7_next {X : XS} {n : Nat} {σ : Mm} {a0 : Nat} (ha0 : RT n a0 107) {res : Int32 × Mm} (h : fX7_next a0 σ = some res) : MT X yX7_next mX7_next 1 0 0 [.ref a0] n σ (n, some (.int res.1), res.2) := by
  unfold fX7_next at h
  refine MT_of (by decide +kernel) rfl (fun h => by cases h) (Nat.le_of_ble_eq_true rfl) ?_
  show J X mX7_next 1 0 0 (n, some (.int res.1), res.2) 0 [(0, .ref a0)] [] n σ
  obtain ⟨o5, hlo5, h⟩ := bindS h
  refine J_pick [0] rfl ?_
  refine tX7_next_w0 ha0 hlo5 ?_
  · intro so5 qo5
    rw [qo5] at h
    try dsimp only [Sum.elim_inl, Sum.elim_inr] at h
    refine J_pick [0] rfl ?_
    exact tX7_next_b38 ha0 h

