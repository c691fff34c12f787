def fX3_clause_b123 (a0 : Nat) (σ : Mm) : Option (Int32 × Mm) :=
  (fX3_emit a0 59 0 σ).bind fun sk20 => some (1, sk20)
set_option maxRecDepth 20000 in
set_option maxHeartbeats 2000000 in
theorem tX3_clause_b123 {X : XS} {n : Nat} {σ : Mm} {a0 : Nat} (ha0 : RT n a0 103) {res : Int32 × Mm} (h : fX3_clause_b123 a0 σ = some res) : J X mX3_clause 110 0 0 (n, some (.int res.1), res.2) 123 [(0, .ref a0)] [] n σ := by
  unfold fX3_clause_b123 at h
  refine J_aload_n (z := 0) dX3_clause_123 rfl rfl (q := 124) rfl ?_
  refine J_bipush (x := 59) dX3_clause_124 (by decide) (q := 126) rfl ?_
  refine J_iconst (x := 0) dX3_clause_126 (by decide) (q := 127) rfl ?_
  obtain ⟨sk20, hk20, h⟩ := bindS h
  refine J_cVv (as := [.int 59, .int 0]) dX3_clause_127 mRX3_62 ha0 (tX3_emit ha0 hk20) rfl (Nat.le_of_ble_eq_true rfl) (Nat.le_of_ble_eq_true rfl) (Nat.le_of_ble_eq_true rfl) (q := 130) rfl ?_
  refine J_iconst (x := 1) dX3_clause_130 (by decide) (q := 131) rfl ?_
  have h := Option.some.inj h
  subst h
  exact J_ireturn dX3_clause_131 rfl rfl rfl

def fX3_clause_b83 (a0 : Nat) (a2 : Int32) (σ : Mm) : Option (Int32 × Mm) :=
  bnd2 (gX3 100 0 a0 0 a2 σ) fun vk12 sk12 => if vk12 = 0 then some (0, sk12) else (gR sk12 a0 0).bind fun r14 => bnd2 (fX7_expect r14 63 sk12) fun vk15 sk15 => if vk15 = 0 then some (0, sk15) else (fX3_emit a0 63 0 sk15).bind fun sk17 => bnd2 (gX3 100 4 a0 0 0 sk17) fun vk18 sk18 => if vk18 = 0 then some (0, sk18) else fX3_clause_b123 a0 sk18
set_option maxRecDepth 20000 in
set_option maxHeartbeats 2000000 in
theorem tX3_clause_b83 {X : XS} {n : Nat} {σ : Mm} {a0 : Nat} {a2 : Int32} (ha0 : RT n a0 103) {res : Int32 × Mm} (h : fX3_clause_b83 a0 a2 σ = some res) : J X mX3_clause 110 0 0 (n, some (.int res.1), res.2) 83 [(0, .ref a0), (2, .int a2)] [] n σ := by
  unfold fX3_clause_b83 at h
  refine J_aload_n (z := 0) dX3_clause_83 rfl rfl (q := 84) rfl ?_
  refine J_iconst (x := 0) dX3_clause_84 (by decide) (q := 85) rfl ?_
  refine J_iload_n (z := 1) dX3_clause_85 rfl rfl (q := 86) rfl ?_
  obtain ⟨vk12, sk12, hk12, h⟩ := bnd2S h
  refine J_cVi (as := [.int 0, .int a2]) dX3_clause_86 mRX3_58 ha0 ((tgX3 100).1 ha0 hk12) rfl (Nat.le_of_ble_eq_true rfl) (Nat.le_of_ble_eq_true rfl) (Nat.le_of_ble_eq_true rfl) (q := 89) rfl ?_
  intro bk12
  refine J_if_eq (tgt := 104) dX3_clause_89 (by decide) (q := 92) rfl (fun c12 => ?_) (fun c12 => ?_)
  · rw [if_pos c12] at h
    refine J_iconst (x := 0) dX3_clause_104 (by decide) (q := 105) rfl ?_
    have h := Option.some.inj h
    subst h
    exact J_ireturn dX3_clause_105 rfl rfl rfl
  · rw [if_neg c12] at h
    refine J_aload_n (z := 0) dX3_clause_92 rfl rfl (q := 93) rfl ?_
    obtain ⟨r14, er14, h⟩ := bindS h
    refine J_getR dX3_clause_93 lRX3_21 ha0 rfl (by decide) er14 (q := 96) rfl (fun fr14 => ?_)
    refine J_bipush (x := 63) dX3_clause_96 (by decide) (q := 98) rfl ?_
    obtain ⟨vk15, sk15, hk15, h⟩ := bnd2S h
    refine J_cVi (as := [.int 63]) dX3_clause_98 mRX3_49 fr14 (tX7_expect fr14 hk15) rfl (Nat.le_of_ble_eq_true rfl) (Nat.le_of_ble_eq_true rfl) (Nat.le_of_ble_eq_true rfl) (q := 101) rfl ?_
    intro bk15
    refine J_if_ne (tgt := 106) dX3_clause_101 (by decide) (q := 104) rfl (fun c15 => ?_) (fun c15 => ?_)
    · rw [if_neg c15] at h
      refine J_aload_n (z := 0) dX3_clause_106 rfl rfl (q := 107) rfl ?_
      refine J_bipush (x := 63) dX3_clause_107 (by decide) (q := 109) rfl ?_
      refine J_iconst (x := 0) dX3_clause_109 (by decide) (q := 110) rfl ?_
      obtain ⟨sk17, hk17, h⟩ := bindS h
      refine J_cVv (as := [.int 63, .int 0]) dX3_clause_110 mRX3_62 ha0 (tX3_emit ha0 hk17) rfl (Nat.le_of_ble_eq_true rfl) (Nat.le_of_ble_eq_true rfl) (Nat.le_of_ble_eq_true rfl) (q := 113) rfl ?_
      refine J_aload_n (z := 0) dX3_clause_113 rfl rfl (q := 114) rfl ?_
      refine J_iconst (x := 0) dX3_clause_114 (by decide) (q := 115) rfl ?_
      obtain ⟨vk18, sk18, hk18, h⟩ := bnd2S h
      refine J_cVi (as := [.int 0]) dX3_clause_115 mRX3_52 ha0 ((tgX3 100).2.2.2.2.1 ha0 hk18) rfl (Nat.le_of_ble_eq_true rfl) (Nat.le_of_ble_eq_true rfl) (Nat.le_of_ble_eq_true rfl) (q := 118) rfl ?_
      intro bk18
      refine J_if_ne (tgt := 123) dX3_clause_118 (by decide) (q := 121) rfl (fun c18 => ?_) (fun c18 => ?_)
      · rw [if_neg c18] at h
        refine J_pick [0] rfl ?_
        exact tX3_clause_b123 ha0 h
      · rw [if_pos c18] at h
        refine J_iconst (x := 0) dX3_clause_121 (by decide) (q := 122) rfl ?_
        have h := Option.some.inj h
        subst h
        exact J_ireturn dX3_clause_122 rfl rfl rfl
    · rw [if_pos c15] at h
      refine J_iconst (x := 0) dX3_clause_104 (by decide) (q := 105) rfl ?_
      have h := Option.some.inj h
      subst h
      exact J_ireturn dX3_clause_105 rfl rfl rfl

def fX3_clause_b66 (a0 : Nat) (a2 : Int32) (σ : Mm) : Option (Int32 × Mm) :=
  if a2 = 0 then fX3_clause_b83 a0 a2 σ else (gR σ a0 0).bind fun r21 => bnd2 (fX7_next r21 σ) fun vk22 sk22 => (fX3_isComparison vk22 sk22).bind fun vk23 => if vk23 = 0 then fX3_clause_b123 a0 sk22 else fX3_clause_b83 a0 a2 sk22
set_option maxRecDepth 20000 in
set_option maxHeartbeats 2000000 in
theorem tX3_clause_b66 {X : XS} {n : Nat} {σ : Mm} {a0 : Nat} {a2 : Int32} (ha0 : RT n a0 103) {res : Int32 × Mm} (h : fX3_clause_b66 a0 a2 σ = some res) : J X mX3_clause 110 0 0 (n, some (.int res.1), res.2) 66 [(0, .ref a0), (2, .int a2)] [] n σ := by
  unfold fX3_clause_b66 at h
  refine J_iload_n (z := 1) dX3_clause_66 rfl rfl (q := 67) rfl ?_
  refine J_if_eq (tgt := 83) dX3_clause_67 (by decide) (q := 70) rfl (fun c10 => ?_) (fun c10 => ?_)
  · rw [if_pos c10] at h
    refine J_pick [0, 1] rfl ?_
    exact tX3_clause_b83 ha0 h
  · rw [if_neg c10] at h
    refine J_aload_n (z := 0) dX3_clause_70 rfl rfl (q := 71) rfl ?_
    obtain ⟨r21, er21, h⟩ := bindS h
    refine J_getR dX3_clause_71 lRX3_21 ha0 rfl (by decide) er21 (q := 74) rfl (fun fr21 => ?_)
    obtain ⟨vk22, sk22, hk22, h⟩ := bnd2S h
    refine J_cVi (as := []) dX3_clause_74 mRX3_42 fr21 (tX7_next fr21 hk22) rfl (Nat.le_of_ble_eq_true rfl) (Nat.le_of_ble_eq_true rfl) (Nat.le_of_ble_eq_true rfl) (q := 77) rfl ?_
    intro bk22
    obtain ⟨vk23, hk23, h⟩ := bindS h
    refine J_cSi (as := [.int vk22]) dX3_clause_77 mRX3_55 (tX3_isComparison  hk23) rfl (Nat.le_of_ble_eq_true rfl) (Nat.le_of_ble_eq_true rfl) (Nat.le_of_ble_eq_true rfl) (q := 80) rfl ?_
    intro bk23
    refine J_if_eq (tgt := 123) dX3_clause_80 (by decide) (q := 83) rfl (fun c23 => ?_) (fun c23 => ?_)
    · rw [if_pos c23] at h
      refine J_pick [0] rfl ?_
      exact tX3_clause_b123 ha0 h
    · rw [if_neg c23] at h
      refine J_pick [0, 1] rfl ?_
      exact tX3_clause_b83 ha0 h

def fX3_clause_b51 (a0 : Nat) (z0 : Int32) (σ : Mm) : Option (Int32 × Mm) :=
  if z0 = 0 then fX3_clause_b66 a0 z0 σ else bnd2 (gX3 100 4 a0 0 0 σ) fun vk25 sk25 => if vk25 = 0 then some (0, sk25) else fX3_clause_b66 a0 z0 sk25
set_option maxRecDepth 20000 in
set_option maxHeartbeats 2000000 in
theorem tX3_clause_b51 {X : XS} {n : Nat} {σ : Mm} {a0 : Nat} {z0 : Int32} (ha0 : RT n a0 103) {res : Int32 × Mm} (h : fX3_clause_b51 a0 z0 σ = some res) : J X mX3_clause 110 0 0 (n, some (.int res.1), res.2) 51 [(0, .ref a0)] [.int z0] n σ := by
  unfold fX3_clause_b51 at h
  refine J_istore_n (lv' := [(2, .int z0), (0, .ref a0)]) dX3_clause_51 rfl (by decide) rfl (q := 52) rfl ?_
  refine J_iload_n (z := 0) dX3_clause_52 rfl rfl (q := 53) rfl ?_
  refine J_if_eq (tgt := 66) dX3_clause_53 (by decide) (q := 56) rfl (fun c9 => ?_) (fun c9 => ?_)
  · rw [if_pos c9] at h
    refine J_pick [1, 0] rfl ?_
    exact tX3_clause_b66 ha0 h
  · rw [if_neg c9] at h
    refine J_aload_n (z := 1) dX3_clause_56 rfl rfl (q := 57) rfl ?_
    refine J_iconst (x := 0) dX3_clause_57 (by decide) (q := 58) rfl ?_
    obtain ⟨vk25, sk25, hk25, h⟩ := bnd2S h
    refine J_cVi (as := [.int 0]) dX3_clause_58 mRX3_52 ha0 ((tgX3 100).2.2.2.2.1 ha0 hk25) rfl (Nat.le_of_ble_eq_true rfl) (Nat.le_of_ble_eq_true rfl) (Nat.le_of_ble_eq_true rfl) (q := 61) rfl ?_
    intro bk25
    refine J_if_ne (tgt := 66) dX3_clause_61 (by decide) (q := 64) rfl (fun c25 => ?_) (fun c25 => ?_)
    · rw [if_neg c25] at h
      refine J_pick [1, 0] rfl ?_
      exact tX3_clause_b66 ha0 h
    · rw [if_pos c25] at h
      refine J_iconst (x := 0) dX3_clause_64 (by decide) (q := 65) rfl ?_
      have h := Option.some.inj h
      subst h
      exact J_ireturn dX3_clause_65 rfl rfl rfl

def fX3_clause_b50 (a0 : Nat) (σ : Mm) : Option (Int32 × Mm) :=
  fX3_clause_b51 a0 0 σ
set_option maxRecDepth 20000 in
set_option maxHeartbeats 2000000 in
theorem tX3_clause_b50 {X : XS} {n : Nat} {σ : Mm} {a0 : Nat} (ha0 : RT n a0 103) {res : Int32 × Mm} (h : fX3_clause_b50 a0 σ = some res) : J X mX3_clause 110 0 0 (n, some (.int res.1), res.2) 50 [(0, .ref a0)] [] n σ := by
  unfold fX3_clause_b50 at h
  refine J_iconst (x := 0) dX3_clause_50 (by decide) (q := 51) rfl ?_
  refine J_pick [0] rfl ?_
  exact tX3_clause_b51 ha0 h

def fX3_clause (a0 : Nat) (σ : Mm) : Option (Int32 × Mm) :=
  (gR σ a0 0).bind fun r1 => bnd2 (fX7_expect r1 121 σ) fun vk2 sk2 => if vk2 = 0 then some (0, sk2) else (gR sk2 a0 0).bind fun r4 => bnd2 (fX7_expect r4 58 sk2) fun vk5 sk5 => if vk5 = 0 then some (0, sk5) else (gR sk5 a0 0).bind fun r7 => bnd2 (fX7_next r7 sk5) fun vk8 sk8 => if vk8 = 33 then fX3_clause_b50 a0 sk8 else if vk8 = 40 then fX3_clause_b50 a0 sk8 else fX3_clause_b51 a0 1 sk8
set_option maxRecDepth 20000 in
set_option maxHeartbeats 2000000 in
theorem tX3_clause {X : XS} {n : Nat} {σ : Mm} {a0 : Nat} (ha0 : RT n a0 103) {res : Int32 × Mm} (h : fX3_clause a0 σ = some res) : MT X yX3_clause mX3_clause 110 0 0 [.ref a0] n σ (n, some (.int res.1), res.2) := by
  unfold fX3_clause at h
  refine MT_of (by decide +kernel) rfl (fun h => by cases h) (Nat.le_of_ble_eq_true rfl) ?_
  show J X mX3_clause 110 0 0 (n, some (.int res.1), res.2) 0 [(0, .ref a0)] [] n σ
  refine J_aload_n (z := 0) dX3_clause_0 rfl rfl (q := 1) rfl ?_
  obtain ⟨r1, er1, h⟩ := bindS h
  refine J_getR dX3_clause_1 lRX3_21 ha0 rfl (by decide) er1 (q := 4) rfl (fun fr1 => ?_)
  refine J_bipush (x := 121) dX3_clause_4 (by decide) (q := 6) rfl ?_
  obtain ⟨vk2, sk2, hk2, h⟩ := bnd2S h
  refine J_cVi (as := [.int 121]) dX3_clause_6 mRX3_49 fr1 (tX7_expect fr1 hk2) rfl (Nat.le_of_ble_eq_true rfl) (Nat.le_of_ble_eq_true rfl) (Nat.le_of_ble_eq_true rfl) (q := 9) rfl ?_
  intro bk2
  refine J_if_eq (tgt := 24) dX3_clause_9 (by decide) (q := 12) rfl (fun c2 => ?_) (fun c2 => ?_)
  · rw [if_pos c2] at h
    refine J_iconst (x := 0) dX3_clause_24 (by decide) (q := 25) rfl ?_
    have h := Option.some.inj h
    subst h
    exact J_ireturn dX3_clause_25 rfl rfl rfl
  · rw [if_neg c2] at h
    refine J_aload_n (z := 0) dX3_clause_12 rfl rfl (q := 13) rfl ?_
    obtain ⟨r4, er4, h⟩ := bindS h
    refine J_getR dX3_clause_13 lRX3_21 ha0 rfl (by decide) er4 (q := 16) rfl (fun fr4 => ?_)
    refine J_bipush (x := 58) dX3_clause_16 (by decide) (q := 18) rfl ?_
    obtain ⟨vk5, sk5, hk5, h⟩ := bnd2S h
    refine J_cVi (as := [.int 58]) dX3_clause_18 mRX3_49 fr4 (tX7_expect fr4 hk5) rfl (Nat.le_of_ble_eq_true rfl) (Nat.le_of_ble_eq_true rfl) (Nat.le_of_ble_eq_true rfl) (q := 21) rfl ?_
    intro bk5
    refine J_if_ne (tgt := 26) dX3_clause_21 (by decide) (q := 24) rfl (fun c5 => ?_) (fun c5 => ?_)
    · rw [if_neg c5] at h
      refine J_aload_n (z := 0) dX3_clause_26 rfl rfl (q := 27) rfl ?_
      obtain ⟨r7, er7, h⟩ := bindS h
      refine J_getR dX3_clause_27 lRX3_21 ha0 rfl (by decide) er7 (q := 30) rfl (fun fr7 => ?_)
      obtain ⟨vk8, sk8, hk8, h⟩ := bnd2S h
      refine J_cVi (as := []) dX3_clause_30 mRX3_42 fr7 (tX7_next fr7 hk8) rfl (Nat.le_of_ble_eq_true rfl) (Nat.le_of_ble_eq_true rfl) (Nat.le_of_ble_eq_true rfl) (q := 33) rfl ?_
      intro bk8
      refine J_istore_n (lv' := [(1, .int vk8), (0, .ref a0)]) dX3_clause_33 rfl (by decide) rfl (q := 34) rfl ?_
      refine J_iload_n (z := 0) dX3_clause_34 rfl rfl (q := 35) rfl ?_
      refine J_bipush (x := 33) dX3_clause_35 (by decide) (q := 37) rfl ?_
      refine J_icmp_eq (tgt := 50) dX3_clause_37 (by decide) (q := 40) rfl (fun c8 => ?_) (fun c8 => ?_)
      · rw [if_pos c8] at h
        refine J_pick [1] rfl ?_
        exact tX3_clause_b50 ha0 h
      · rw [if_neg c8] at h
        refine J_iload_n (z := 0) dX3_clause_40 rfl rfl (q := 41) rfl ?_
        refine J_bipush (x := 40) dX3_clause_41 (by decide) (q := 43) rfl ?_
        refine J_icmp_eq (tgt := 50) dX3_clause_43 (by decide) (q := 46) rfl (fun c26 => ?_) (fun c26 => ?_)
        · rw [if_pos c26] at h
          refine J_pick [1] rfl ?_
          exact tX3_clause_b50 ha0 h
        · rw [if_neg c26] at h
          refine J_iconst (x := 1) dX3_clause_46 (by decide) (q := 47) rfl ?_
          refine J_goto (tgt := 51) dX3_clause_47 (by decide) ?_
          refine J_pick [1] rfl ?_
          exact tX3_clause_b51 ha0 h
    · rw [if_pos c5] at h
      refine J_iconst (x := 0) dX3_clause_24 (by decide) (q := 25) rfl ?_
      have h := Option.some.inj h
      subst h
      exact J_ireturn dX3_clause_25 rfl rfl rfl

def fX3_parse_l16 (a0 : Nat) (a1 : Int32) (a2 : Int32) (σ : Mm) : Option ((Int32 × Int32 × Mm) ⊕ ((Int32 × Mm) ⊕ Mm)) :=
  if a1 = 0 then some (Sum.inr (Sum.inr σ)) else if 240 < a2 then some (Sum.inr (Sum.inr σ)) else bnd2 (fX3_clause a0 σ) fun vk5 sk5 => if vk5 = 0 then some (Sum.inr (Sum.inl (0, sk5))) else (gR sk5 a0 0).bind fun r7 => bnd2 (fX7_goOver r7 59 sk5) fun vk8 sk8 => some (Sum.inl (vk8, (a2 + 1), sk8))
set_option maxRecDepth 20000 in
set_option maxHeartbeats 2000000 in
theorem tX3_parse_l16 {X : XS} {n : Nat} {σ : Mm} {F : Nat × Option Value × Mm} {a0 : Nat} {a1 : Int32} {a2 : Int32} (ha0 : RT n a0 103) {res : (Int32 × Int32 × Mm) ⊕ ((Int32 × Mm) ⊕ Mm)} (h : fX3_parse_l16 a0 a1 a2 σ = some res) (hc : ∀ (b1 : Int32) (b2 : Int32) (s : Mm), res = .inl (b1, b2, s) → J X mX3_parse 111 0 0 F 16 [(0, .ref a0), (1, .int b1), (2, .int b2)] [] n s) (he0 : ∀  (s : Mm), res = .inr (Sum.inr s) → J X mX3_parse 111 0 0 F 52 [(0, .ref a0)] [] n s) (hr : ∀ (v : Int32) (s : Mm), res = .inr (Sum.inl (v, s)) → F = (n, some (.int v), s)) : J X mX3_parse 111 0 0 F 16 [(0, .ref a0), (1, .int a1), (2, .int a2)] [] n σ := by
  unfold fX3_parse_l16 at h
  refine J_iload_n (z := 1) dX3_parse_16 rfl rfl (q := 17) rfl ?_
  refine J_if_eq (tgt := 52) dX3_parse_17 (by decide) (q := 20) rfl (fun c2 => ?_) (fun c2 => ?_)
  · rw [if_pos c2] at h
    have h := Option.some.inj h
    refine J_pick [0] rfl ?_
    exact he0 _ h.symm
  · rw [if_neg c2] at h
    refine J_iload_n (z := 2) dX3_parse_20 rfl rfl (q := 21) rfl ?_
    refine J_sipush (x := 240) dX3_parse_21 (by decide) (q := 24) rfl ?_
    refine J_icmp_gt (tgt := 52) dX3_parse_24 (by decide) (q := 27) rfl (fun c3 => ?_) (fun c3 => ?_)
    · rw [if_pos c3] at h
      have h := Option.some.inj h
      refine J_pick [0] rfl ?_
      exact he0 _ h.symm
    · rw [if_neg c3] at h
      refine J_aload_n (z := 0) dX3_parse_27 rfl rfl (q := 28) rfl ?_
      obtain ⟨vk5, sk5, hk5, h⟩ := bnd2S h
      refine J_cVi (as := []) dX3_parse_28 mRX3_34 ha0 (tX3_clause ha0 hk5) rfl (Nat.le_of_ble_eq_true rfl) (Nat.le_of_ble_eq_true rfl) (Nat.le_of_ble_eq_true rfl) (q := 31) rfl ?_
      intro bk5
      refine J_if_ne (tgt := 36) dX3_parse_31 (by decide) (q := 34) rfl (fun c5 => ?_) (fun c5 => ?_)
      · rw [if_neg c5] at h
        refine J_aload_n (z := 0) dX3_parse_36 rfl rfl (q := 37) rfl ?_
        obtain ⟨r7, er7, h⟩ := bindS h
        refine J_getR dX3_parse_37 lRX3_21 ha0 rfl (by decide) er7 (q := 40) rfl (fun fr7 => ?_)
        refine J_bipush (x := 59) dX3_parse_40 (by decide) (q := 42) rfl ?_
        obtain ⟨vk8, sk8, hk8, h⟩ := bnd2S h
        refine J_cVi (as := [.int 59]) dX3_parse_42 mRX3_38 fr7 (tX7_goOver fr7 hk8) rfl (Nat.le_of_ble_eq_true rfl) (Nat.le_of_ble_eq_true rfl) (Nat.le_of_ble_eq_true rfl) (q := 45) rfl ?_
        intro bk8
        refine J_istore_n (lv' := [(1, .int vk8), (0, .ref a0), (2, .int a2)]) dX3_parse_45 rfl (by decide) rfl (q := 46) rfl ?_
        refine J_iinc (z := 2) (y := (a2 + 1)) (lv' := [(2, .int (a2 + 1)), (1, .int vk8), (0, .ref a0)]) dX3_parse_46 rfl rfl (by decide) rfl (q := 49) rfl ?_
        refine J_goto (tgt := 16) dX3_parse_49 (by decide) ?_
        have h := Option.some.inj h
        refine J_pick [2, 1, 0] rfl ?_
        exact hc _ _ _ h.symm
      · rw [if_pos c5] at h
        refine J_iconst (x := 0) dX3_parse_34 (by decide) (q := 35) rfl ?_
        have h := Option.some.inj h
        exact J_ireturn dX3_parse_35 rfl rfl (hr _ _ h.symm)

def fX3_parse_w16 (a0 : Nat) (a1 : Int32) (a2 : Int32) (σ : Mm) : Option ((Int32 × Mm) ⊕ Mm) :=
  wh (fun a : Int32 × Int32 × Mm => fX3_parse_l16 a0 a.1 a.2.1 a.2.2) BIG (a1, a2, σ)
set_option maxRecDepth 20000 in
set_option maxHeartbeats 2000000 in
theorem tX3_parse_w16 {X : XS} {n : Nat} {σ : Mm} {F : Nat × Option Value × Mm} {a0 : Nat} {a1 : Int32} {a2 : Int32} (ha0 : RT n a0 103) {res : (Int32 × Mm) ⊕ Mm} (h : fX3_parse_w16 a0 a1 a2 σ = some res) (he0 : ∀  (s : Mm), res = (Sum.inr s) → J X mX3_parse 111 0 0 F 52 [(0, .ref a0)] [] n s) (hr : ∀ (v : Int32) (s : Mm), res = (Sum.inl (v, s)) → F = (n, some (.int v), s)) : J X mX3_parse 111 0 0 F 16 [(0, .ref a0), (1, .int a1), (2, .int a2)] [] n σ := by
  unfold fX3_parse_w16 at h
  refine wh_rule (P := fun a : Int32 × Int32 × Mm => J X mX3_parse 111 0 0 F 16 [(0, .ref a0), (1, .int a.1), (2, .int a.2.1)] [] n a.2.2) (K := fun b => b = res) ?_ _ _ _ h rfl
  intro a
  refine ⟨fun a2 hb hP => ?_, fun b hb hK => ?_⟩
  · exact tX3_parse_l16 ha0 hb (fun _ _ _ e => by cases e; exact hP) (fun _ e => by cases e) (fun _ _ e => by cases e)
  · subst hK
    exact tX3_parse_l16 ha0 hb (fun _ _ _ e => by cases e) (fun v0 e => he0 v0 (Sum.inr.inj e)) (fun v0 v1 e => hr v0 v1 (Sum.inr.inj e))

def fX3_parse_b52 (a0 : Nat) (σ : Mm) : Option (Int32 × Mm) :=
  (gR σ a0 0).bind fun r10 => bnd2 (fX7_next r10 σ) fun vk11 sk11 => if vk11 = (-1) then some (1, sk11) else (gR sk11 a0 0).bind fun r13 => bnd2 (fX7_wrongHere r13 sk11) fun vk14 sk14 => if vk14 = 0 then some (0, sk14) else some (1, sk14)
set_option maxRecDepth 20000 in
set_option maxHeartbeats 2000000 in
theorem tX3_parse_b52 {X : XS} {n : Nat} {σ : Mm} {a0 : Nat} (ha0 : RT n a0 103) {res : Int32 × Mm} (h : fX3_parse_b52 a0 σ = some res) : J X mX3_parse 111 0 0 (n, some (.int res.1), res.2) 52 [(0, .ref a0)] [] n σ := by
  unfold fX3_parse_b52 at h
  refine J_aload_n (z := 0) dX3_parse_52 rfl rfl (q := 53) rfl ?_
  obtain ⟨r10, er10, h⟩ := bindS h
  refine J_getR dX3_parse_53 lRX3_21 ha0 rfl (by decide) er10 (q := 56) rfl (fun fr10 => ?_)
  obtain ⟨vk11, sk11, hk11, h⟩ := bnd2S h
  refine J_cVi (as := []) dX3_parse_56 mRX3_42 fr10 (tX7_next fr10 hk11) rfl (Nat.le_of_ble_eq_true rfl) (Nat.le_of_ble_eq_true rfl) (Nat.le_of_ble_eq_true rfl) (q := 59) rfl ?_
  intro bk11
  refine J_iconst (x := (-1)) dX3_parse_59 (by decide) (q := 60) rfl ?_
  refine J_icmp_eq (tgt := 73) dX3_parse_60 (by decide) (q := 63) rfl (fun c11 => ?_) (fun c11 => ?_)
  · rw [if_pos c11] at h
    refine J_iconst (x := 1) dX3_parse_73 (by decide) (q := 74) rfl ?_
    refine J_goto (tgt := 78) dX3_parse_74 (by decide) ?_
    have h := Option.some.inj h
    subst h
    exact J_ireturn dX3_parse_78 rfl rfl rfl
  · rw [if_neg c11] at h
    refine J_aload_n (z := 0) dX3_parse_63 rfl rfl (q := 64) rfl ?_
    obtain ⟨r13, er13, h⟩ := bindS h
    refine J_getR dX3_parse_64 lRX3_21 ha0 rfl (by decide) er13 (q := 67) rfl (fun fr13 => ?_)
    obtain ⟨vk14, sk14, hk14, h⟩ := bnd2S h
    refine J_cVi (as := []) dX3_parse_67 mRX3_46 fr13 (tX7_wrongHere fr13 hk14) rfl (Nat.le_of_ble_eq_true rfl) (Nat.le_of_ble_eq_true rfl) (Nat.le_of_ble_eq_true rfl) (q := 70) rfl ?_
    intro bk14
    refine J_if_eq (tgt := 77) dX3_parse_70 (by decide) (q := 73) rfl (fun c14 => ?_) (fun c14 => ?_)
    · rw [if_pos c14] at h
      refine J_iconst (x := 0) dX3_parse_77 (by decide) (q := 78) rfl ?_
      have h := Option.some.inj h
      subst h
      exact J_ireturn dX3_parse_78 rfl rfl rfl
    · rw [if_neg c14] at h
      refine J_iconst (x := 1) dX3_parse_73 (by decide) (q := 74) rfl ?_
      refine J_goto (tgt := 78) dX3_parse_74 (by decide) ?_
      have h := Option.some.inj h
      subst h
      exact J_ireturn dX3_parse_78 rfl rfl rfl

def fX3_parse (a0 : Nat) (σ : Mm) : Option (Int32 × Mm) :=
  (gR σ a0 0).bind fun r1 => (fX7_rewind r1 (sI σ a0 4 0)).bind fun sk2 => (fX3_parse_w16 a0 1 0 sk2).bind (Sum.elim (fun eo90 => some eo90) (fun eo91 => (fun so9 => fX3_parse_b52 a0 so9) eo91))
set_option maxRecDepth 20000 in
set_option maxHeartbeats 2000000 in
theorem tX3_parse {X : XS} {n : Nat} {σ : Mm} {a0 : Nat} (ha0 : RT n a0 103) {res : Int32 × Mm} (h : fX3_parse a0 σ = some res) : MT X yX3_parse mX3_parse 111 0 0 [.ref a0] n σ (n, some (.int res.1), res.2) := by
  unfold fX3_parse at h
  refine MT_of (by decide +kernel) rfl (fun h => by cases h) (Nat.le_of_ble_eq_true rfl) ?_
  show J X mX3_parse 111 0 0 (n, some (.int res.1), res.2) 0 [(0, .ref a0)] [] n σ
  refine J_aload_n (z := 0) dX3_parse_0 rfl rfl (q := 1) rfl ?_
  refine J_iconst (x := 0) dX3_parse_1 (by decide) (q := 2) rfl ?_
  refine J_putI dX3_parse_2 lRX3_25 (fun h => by cases h) ha0 rfl (q := 5) rfl ?_
  refine J_aload_n (z := 0) dX3_parse_5 rfl rfl (q := 6) rfl ?_
  obtain ⟨r1, er1, h⟩ := bindS h
  refine J_getR dX3_parse_6 lRX3_21 ha0 rfl (by decide) er1 (q := 9) rfl (fun fr1 => ?_)
  obtain ⟨sk2, hk2, h⟩ := bindS h
  refine J_cVv (as := []) dX3_parse_9 mRX3_29 fr1 (tX7_rewind fr1 hk2) rfl (Nat.le_of_ble_eq_true rfl) (Nat.le_of_ble_eq_true rfl) (Nat.le_of_ble_eq_true rfl) (q := 12) rfl ?_
  refine J_iconst (x := 1) dX3_parse_12 (by decide) (q := 13) rfl ?_
  refine J_istore_n (lv' := [(1, .int 1), (0, .ref a0)]) dX3_parse_13 rfl (by decide) rfl (q := 14) rfl ?_
  refine J_iconst (x := 0) dX3_parse_14 (by decide) (q := 15) rfl ?_
  refine J_istore_n (lv' := [(2, .int 0), (1, .int 1), (0, .ref a0)]) dX3_parse_15 rfl (by decide) rfl (q := 16) rfl ?_
  obtain ⟨o9, hlo9, h⟩ := bindS h
  refine J_pick [2, 1, 0] rfl ?_
  refine tX3_parse_w16 ha0 hlo9 ?_ ?_
  · intro so9 qo9
    rw [qo9] at h
    try dsimp only [Sum.elim_inl, Sum.elim_inr] at h
    refine J_pick [0] rfl ?_
    exact tX3_parse_b52 ha0 h
  · intro vo9 so9 qo9
    rw [qo9] at h
    try dsimp only [Sum.elim_inl, Sum.elim_inr] at h
    have h := Option.some.inj h
    subst h
    rfl

def fX4_clear (a0 : Nat) (σ : Mm) : Option (Mm) :=
  some (sI (sI σ a0 1 0) a0 2 0)
set_option maxRecDepth 20000 in
set_option maxHeartbeats 2000000 in
theorem tX4_clear {X : XS} {n : Nat} {σ : Mm} {a0 : Nat} (ha0 : RT n a0 104) {res : Mm} (h : fX4_clear a0 σ = some res) : MT X yX4_clear mX4_clear 1 0 0 [.ref a0] n σ (n, none, res) := by
  unfold fX4_clear at h
  refine MT_of (by decide +kernel) rfl (fun h => by cases h) (Nat.le_of_ble_eq_true rfl) ?_
  show J X mX4_clear 1 0 0 (n, none, res) 0 [(0, .ref a0)] [] n σ
  refine J_aload_n (z := 0) dX4_clear_0 rfl rfl (q := 1) rfl ?_
  refine J_iconst (x := 0) dX4_clear_1 (by decide) (q := 2) rfl ?_
  refine J_putI dX4_clear_2 lRX4_18 (fun h => by cases h) ha0 rfl (q := 5) rfl ?_
  refine J_aload_n (z := 0) dX4_clear_5 rfl rfl (q := 6) rfl ?_
  refine J_iconst (x := 0) dX4_clear_6 (by decide) (q := 7) rfl ?_
  refine J_putI dX4_clear_7 lRX4_22 (fun h => by cases h) ha0 rfl (q := 10) rfl ?_
  have h := Option.some.inj h
  subst h
  exact J_return dX4_clear_10 rfl rfl

def fX4_keep (a0 : Nat) (a1 : Nat) (σ : Mm) : Option (Mm) :=
  if (gI σ a0 2) < 0 then some σ else (gR σ a0 0).bind fun r2 => if (gI σ a0 2) < (nI (ln r2)) then if ixB (gI σ a0 2) (ln r2) = true then (gR σ r2 (Int32.toNatClampNeg (gI σ a0 2))).bind fun r5 => (fX6_takeFrom r5 a1 σ).bind fun sk6 => some (sI (sI sk6 a0 2 (remI ((gI sk6 a0 2) + 1) 40)) a0 1 (minI 40 ((gI (sI sk6 a0 2 (remI ((gI sk6 a0 2) + 1) 40)) a0 1) + 1))) else none else some σ
set_option maxRecDepth 20000 in
set_option maxHeartbeats 2000000 in
theorem tX4_keep {X : XS} {n : Nat} {σ : Mm} {a0 : Nat} {a1 : Nat} (ha0 : RT n a0 104) (ha1 : RT n a1 106) {res : Mm} (h : fX4_keep a0 a1 σ = some res) : MT X yX4_keep mX4_keep 2 0 0 [.ref a0, .ref a1] n σ (n, none, res) := by
  unfold fX4_keep at h
  refine MT_of (by decide +kernel) rfl (fun h => by cases h) (Nat.le_of_ble_eq_true rfl) ?_
  show J X mX4_keep 2 0 0 (n, none, res) 0 [(0, .ref a0), (1, .ref a1)] [] n σ
  refine J_aload_n (z := 0) dX4_keep_0 rfl rfl (q := 1) rfl ?_
  refine J_getI dX4_keep_1 lRX4_22 ha0 rfl (q := 4) rfl ?_
  refine J_if_lt (tgt := 19) dX4_keep_4 (by decide) (q := 7) rfl (fun c0 => ?_) (fun c0 => ?_)
  · rw [if_pos c0] at h
    have h := Option.some.inj h
    subst h
    exact J_return dX4_keep_19 rfl rfl
  · rw [if_neg c0] at h
    refine J_aload_n (z := 0) dX4_keep_7 rfl rfl (q := 8) rfl ?_
    refine J_getI dX4_keep_8 lRX4_22 ha0 rfl (q := 11) rfl ?_
    refine J_aload_n (z := 0) dX4_keep_11 rfl rfl (q := 12) rfl ?_
    obtain ⟨r2, er2, h⟩ := bindS h
    refine J_getR dX4_keep_12 lRX4_11 ha0 rfl (by decide) er2 (q := 15) rfl (fun fr2 => ?_)
    refine J_alen (t := 5) dX4_keep_15 fr2 (by decide) rfl (q := 16) rfl ?_
    refine J_icmp_lt (tgt := 20) dX4_keep_16 (by decide) (q := 19) rfl (fun c2 => ?_) (fun c2 => ?_)
    · rw [if_pos c2] at h
      refine J_aload_n (z := 0) dX4_keep_20 rfl rfl (q := 21) rfl ?_
      refine J_getR dX4_keep_21 lRX4_11 ha0 rfl (by decide) er2 (q := 24) rfl (fun _ => ?_)
      refine J_aload_n (z := 0) dX4_keep_24 rfl rfl (q := 25) rfl ?_
      refine J_getI dX4_keep_25 lRX4_22 ha0 rfl (q := 28) rfl ?_
      obtain ⟨g4, h⟩ := iteS h
      obtain ⟨r5, er5, h⟩ := bindS h
      refine J_aald (t := 5) dX4_keep_28 fr2 (by decide) (ixB_ok g4) er5 (q := 29) rfl (fun fr5 => ?_)
      refine J_aload_n (z := 1) dX4_keep_29 rfl rfl (q := 30) rfl ?_
      obtain ⟨sk6, hk6, h⟩ := bindS h
      refine J_cVv (as := [.ref a1]) dX4_keep_30 mRX4_25 fr5 (tX6_takeFrom fr5 ha1 hk6) rfl (Nat.le_of_ble_eq_true rfl) (Nat.le_of_ble_eq_true rfl) (Nat.le_of_ble_eq_true rfl) (q := 33) rfl ?_
      refine J_aload_n (z := 0) dX4_keep_33 rfl rfl (q := 34) rfl ?_
      refine J_aload_n (z := 0) dX4_keep_34 rfl rfl (q := 35) rfl ?_
      refine J_getI dX4_keep_35 lRX4_22 ha0 rfl (q := 38) rfl ?_
      refine J_iconst (x := 1) dX4_keep_38 (by decide) (q := 39) rfl ?_
      refine J_iadd dX4_keep_39  (q := 40) rfl ?_
      refine J_bipush (x := 40) dX4_keep_40 (by decide) (q := 42) rfl ?_
      refine J_irem dX4_keep_42 (by decide) (q := 43) rfl ?_
      refine J_putI dX4_keep_43 lRX4_22 (fun h => by cases h) ha0 rfl (q := 46) rfl ?_
      refine J_aload_n (z := 0) dX4_keep_46 rfl rfl (q := 47) rfl ?_
      refine J_bipush (x := 40) dX4_keep_47 (by decide) (q := 49) rfl ?_
      refine J_aload_n (z := 0) dX4_keep_49 rfl rfl (q := 50) rfl ?_
      refine J_getI dX4_keep_50 lRX4_18 ha0 rfl (q := 53) rfl ?_
      refine J_iconst (x := 1) dX4_keep_53 (by decide) (q := 54) rfl ?_
      refine J_iadd dX4_keep_54  (q := 55) rfl ?_
      refine J_mmin dX4_keep_55 pRX4_29 q_static_mmin q_init_math q_code_mmin (Nat.le_of_ble_eq_true rfl) (Nat.le_of_ble_eq_true rfl) (q := 58) rfl ?_
      refine J_putI dX4_keep_58 lRX4_18 (fun h => by cases h) ha0 rfl (q := 61) rfl ?_
      have h := Option.some.inj h
      subst h
      exact J_return dX4_keep_61 rfl rfl
    · rw [if_neg c2] at h
      have h := Option.some.inj h
      subst h
      exact J_return dX4_keep_19 rfl rfl

def fX4_giveBack (a0 : Nat) (a1 : Nat) (σ : Mm) : Option (Int32 × Mm) :=
  if (gI σ a0 1) < 1 then some (0, σ) else if 0 ≤ (remI (((gI σ a0 2) + 40) - 1) 40) then (gR σ a0 0).bind fun r3 => if ixB (remI (((gI σ a0 2) + 40) - 1) 40) (ln r3) = true then (gR σ r3 (Int32.toNatClampNeg (remI (((gI σ a0 2) + 40) - 1) 40))).bind fun r5 => (fX6_takeFrom a1 r5 σ).bind fun sk6 => some (1, (sI (sI sk6 a0 2 (remI (((gI σ a0 2) + 40) - 1) 40)) a0 1 ((gI (sI sk6 a0 2 (remI (((gI σ a0 2) + 40) - 1) 40)) a0 1) - 1))) else none else some (0, σ)
set_option maxRecDepth 20000 in
set_option maxHeartbeats 2000000 in
theorem tX4_giveBack {X : XS} {n : Nat} {σ : Mm} {a0 : Nat} {a1 : Nat} (ha0 : RT n a0 104) (ha1 : RT n a1 106) {res : Int32 × Mm} (h : fX4_giveBack a0 a1 σ = some res) : MT X yX4_giveBack mX4_giveBack 2 0 0 [.ref a0, .ref a1] n σ (n, some (.int res.1), res.2) := by
  unfold fX4_giveBack at h
  refine MT_of (by decide +kernel) rfl (fun h => by cases h) (Nat.le_of_ble_eq_true rfl) ?_
  show J X mX4_giveBack 2 0 0 (n, some (.int res.1), res.2) 0 [(0, .ref a0), (1, .ref a1)] [] n σ
  refine J_aload_n (z := 0) dX4_giveBack_0 rfl rfl (q := 1) rfl ?_
  refine J_getI dX4_giveBack_1 lRX4_22 ha0 rfl (q := 4) rfl ?_
  refine J_bipush (x := 40) dX4_giveBack_4 (by decide) (q := 6) rfl ?_
  refine J_iadd dX4_giveBack_6  (q := 7) rfl ?_
  refine J_iconst (x := 1) dX4_giveBack_7 (by decide) (q := 8) rfl ?_
  refine J_isub dX4_giveBack_8  (q := 9) rfl ?_
  refine J_bipush (x := 40) dX4_giveBack_9 (by decide) (q := 11) rfl ?_
  refine J_irem dX4_giveBack_11 (by decide) (q := 12) rfl ?_
  refine J_istore_n (lv' := [(2, .int (remI (((gI σ a0 2) + 40) - 1) 40)), (0, .ref a0), (1, .ref a1)]) dX4_giveBack_12 rfl (by decide) rfl (q := 13) rfl ?_
  refine J_aload_n (z := 1) dX4_giveBack_13 rfl rfl (q := 14) rfl ?_
  refine J_getI dX4_giveBack_14 lRX4_18 ha0 rfl (q := 17) rfl ?_
  refine J_iconst (x := 1) dX4_giveBack_17 (by decide) (q := 18) rfl ?_
  refine J_icmp_lt (tgt := 25) dX4_giveBack_18 (by decide) (q := 21) rfl (fun c0 => ?_) (fun c0 => ?_)
  · rw [if_pos c0] at h
    refine J_iconst (x := 0) dX4_giveBack_25 (by decide) (q := 26) rfl ?_
    have h := Option.some.inj h
    subst h
    exact J_ireturn dX4_giveBack_26 rfl rfl rfl
  · rw [if_neg c0] at h
    refine J_iload_n (z := 0) dX4_giveBack_21 rfl rfl (q := 22) rfl ?_
    refine J_if_ge (tgt := 27) dX4_giveBack_22 (by decide) (q := 25) rfl (fun c1 => ?_) (fun c1 => ?_)
    · rw [if_pos c1] at h
      refine J_aload_n (z := 2) dX4_giveBack_27 rfl rfl (q := 28) rfl ?_
      refine J_aload_n (z := 1) dX4_giveBack_28 rfl rfl (q := 29) rfl ?_
      obtain ⟨r3, er3, h⟩ := bindS h
      refine J_getR dX4_giveBack_29 lRX4_11 ha0 rfl (by decide) er3 (q := 32) rfl (fun fr3 => ?_)
      refine J_iload_n (z := 0) dX4_giveBack_32 rfl rfl (q := 33) rfl ?_
      obtain ⟨g4, h⟩ := iteS h
      obtain ⟨r5, er5, h⟩ := bindS h
      refine J_aald (t := 5) dX4_giveBack_33 fr3 (by decide) (ixB_ok g4) er5 (q := 34) rfl (fun fr5 => ?_)
      obtain ⟨sk6, hk6, h⟩ := bindS h
      refine J_cVv (as := [.ref r5]) dX4_giveBack_34 mRX4_25 ha1 (tX6_takeFrom ha1 fr5 hk6) rfl (Nat.le_of_ble_eq_true rfl) (Nat.le_of_ble_eq_true rfl) (Nat.le_of_ble_eq_true rfl) (q := 37) rfl ?_
      refine J_aload_n (z := 1) dX4_giveBack_37 rfl rfl (q := 38) rfl ?_
      refine J_iload_n (z := 0) dX4_giveBack_38 rfl rfl (q := 39) rfl ?_
      refine J_putI dX4_giveBack_39 lRX4_22 (fun h => by cases h) ha0 rfl (q := 42) rfl ?_
      refine J_aload_n (z := 1) dX4_giveBack_42 rfl rfl (q := 43) rfl ?_
      refine J_dup dX4_giveBack_43 rfl (q := 44) rfl ?_
      refine J_getI dX4_giveBack_44 lRX4_18 ha0 rfl (q := 47) rfl ?_
      refine J_iconst (x := 1) dX4_giveBack_47 (by decide) (q := 48) rfl ?_
      refine J_isub dX4_giveBack_48  (q := 49) rfl ?_
      refine J_putI dX4_giveBack_49 lRX4_18 (fun h => by cases h) ha0 rfl (q := 52) rfl ?_
      refine J_iconst (x := 1) dX4_giveBack_52 (by decide) (q := 53) rfl ?_
      have h := Option.some.inj h
      subst h
      exact J_ireturn dX4_giveBack_53 rfl rfl rfl
    · rw [if_neg c1] at h
      refine J_iconst (x := 0) dX4_giveBack_25 (by decide) (q := 26) rfl ?_
      have h := Option.some.inj h
      subst h
      exact J_ireturn dX4_giveBack_26 rfl rfl rfl

def fX5_add (a0 : Nat) (a1 : Int32) (a2 : Int32) (a3 : Int32) (σ : Mm) : Option (Int32 × Mm) :=
  if (gI σ a0 4) < 16 then (gR σ a0 1).bind fun r2 => if ixB (gI σ a0 4) (ln r2) = true then (gR σ a0 2).bind fun r4 => if ixB (gI (sI σ r2 (Int32.toNatClampNeg (gI σ a0 4)) a1) a0 4) (ln r4) = true then (gR σ a0 3).bind fun r6 => if ixB (gI (sI (sI σ r2 (Int32.toNatClampNeg (gI σ a0 4)) a1) r4 (Int32.toNatClampNeg (gI (sI σ r2 (Int32.toNatClampNeg (gI σ a0 4)) a1) a0 4)) a2) a0 4) (ln r6) = true then some (1, (sI (sI (sI (sI σ r2 (Int32.toNatClampNeg (gI σ a0 4)) a1) r4 (Int32.toNatClampNeg (gI (sI σ r2 (Int32.toNatClampNeg (gI σ a0 4)) a1) a0 4)) a2) r6 (Int32.toNatClampNeg (gI (sI (sI σ r2 (Int32.toNatClampNeg (gI σ a0 4)) a1) r4 (Int32.toNatClampNeg (gI (sI σ r2 (Int32.toNatClampNeg (gI σ a0 4)) a1) a0 4)) a2) a0 4)) a3) a0 4 ((gI (sI (sI (sI σ r2 (Int32.toNatClampNeg (gI σ a0 4)) a1) r4 (Int32.toNatClampNeg (gI (sI σ r2 (Int32.toNatClampNeg (gI σ a0 4)) a1) a0 4)) a2) r6 (Int32.toNatClampNeg (gI (sI (sI σ r2 (Int32.toNatClampNeg (gI σ a0 4)) a1) r4 (Int32.toNatClampNeg (gI (sI σ r2 (Int32.toNatClampNeg (gI σ a0 4)) a1) a0 4)) a2) a0 4)) a3) a0 4) + 1))) else none else none else none else some (0, σ)
set_option maxRecDepth 20000 in
set_option maxHeartbeats 2000000 in
theorem tX5_add {X : XS} {n : Nat} {σ : Mm} {a0 : Nat} {a1 : Int32} {a2 : Int32} {a3 : Int32} (ha0 : RT n a0 105) {res : Int32 × Mm} (h : fX5_add a0 a1 a2 a3 σ = some res) : MT X yX5_add mX5_add 1 0 0 [.ref a0, .int a1, .int a2, .int a3] n σ (n, some (.int res.1), res.2) := by
  unfold fX5_add at h
  refine MT_of (by decide +kernel) rfl (fun h => by cases h) (Nat.le_of_ble_eq_true rfl) ?_
  show J X mX5_add 1 0 0 (n, some (.int res.1), res.2) 0 [(0, .ref a0), (1, .int a1), (2, .int a2), (3, .int a3)] [] n σ
  refine J_aload_n (z := 0) dX5_add_0 rfl rfl (q := 1) rfl ?_
  refine J_getI dX5_add_1 lRX5_25 ha0 rfl (q := 4) rfl ?_
  refine J_bipush (x := 16) dX5_add_4 (by decide) (q := 6) rfl ?_
  refine J_icmp_lt (tgt := 11) dX5_add_6 (by decide) (q := 9) rfl (fun c0 => ?_) (fun c0 => ?_)
  · rw [if_pos c0] at h
    refine J_aload_n (z := 0) dX5_add_11 rfl rfl (q := 12) rfl ?_
    obtain ⟨r2, er2, h⟩ := bindS h
    refine J_getR dX5_add_12 lRX5_9 ha0 rfl (by decide) er2 (q := 15) rfl (fun fr2 => ?_)
    refine J_aload_n (z := 0) dX5_add_15 rfl rfl (q := 16) rfl ?_
    refine J_getI dX5_add_16 lRX5_25 ha0 rfl (q := 19) rfl ?_
    refine J_iload_n (z := 1) dX5_add_19 rfl rfl (q := 20) rfl ?_
    obtain ⟨g3, h⟩ := iteS h
    refine J_iast dX5_add_20 fr2 (ixB_ok g3) (q := 21) rfl ?_
    refine J_aload_n (z := 0) dX5_add_21 rfl rfl (q := 22) rfl ?_
    obtain ⟨r4, er4, h⟩ := bindS h
    refine J_getR dX5_add_22 lRX5_15 ha0 rfl (by decide) er4 (q := 25) rfl (fun fr4 => ?_)
    refine J_aload_n (z := 0) dX5_add_25 rfl rfl (q := 26) rfl ?_
    refine J_getI dX5_add_26 lRX5_25 ha0 rfl (q := 29) rfl ?_
    refine J_iload_n (z := 2) dX5_add_29 rfl rfl (q := 30) rfl ?_
    obtain ⟨g5, h⟩ := iteS h
    refine J_iast dX5_add_30 fr4 (ixB_ok g5) (q := 31) rfl ?_
    refine J_aload_n (z := 0) dX5_add_31 rfl rfl (q := 32) rfl ?_
    obtain ⟨r6, er6, h⟩ := bindS h
    refine J_getR dX5_add_32 lRX5_18 ha0 rfl (by decide) er6 (q := 35) rfl (fun fr6 => ?_)
    refine J_aload_n (z := 0) dX5_add_35 rfl rfl (q := 36) rfl ?_
    refine J_getI dX5_add_36 lRX5_25 ha0 rfl (q := 39) rfl ?_
    refine J_iload_n (z := 3) dX5_add_39 rfl rfl (q := 40) rfl ?_
    obtain ⟨g7, h⟩ := iteS h
    refine J_iast dX5_add_40 fr6 (ixB_ok g7) (q := 41) rfl ?_
    refine J_aload_n (z := 0) dX5_add_41 rfl rfl (q := 42) rfl ?_
    refine J_dup dX5_add_42 rfl (q := 43) rfl ?_
    refine J_getI dX5_add_43 lRX5_25 ha0 rfl (q := 46) rfl ?_
    refine J_iconst (x := 1) dX5_add_46 (by decide) (q := 47) rfl ?_
    refine J_iadd dX5_add_47  (q := 48) rfl ?_
    refine J_putI dX5_add_48 lRX5_25 (fun h => by cases h) ha0 rfl (q := 51) rfl ?_
    refine J_iconst (x := 1) dX5_add_51 (by decide) (q := 52) rfl ?_
    have h := Option.some.inj h
    subst h
    exact J_ireturn dX5_add_52 rfl rfl rfl
  · rw [if_neg c0] at h
    refine J_iconst (x := 0) dX5_add_9 (by decide) (q := 10) rfl ?_
    have h := Option.some.inj h
    subst h
    exact J_ireturn dX5_add_10 rfl rfl rfl

def fX5_stepText_b69 (a0 : Nat) (σ : Mm) : Option (Int32 × Mm) :=
  (gR σ a0 0).bind fun r8 => bnd2 (fX7_wrongHere r8 σ) fun vk9 sk9 => some (vk9, sk9)
set_option maxRecDepth 20000 in
set_option maxHeartbeats 2000000 in
theorem tX5_stepText_b69 {X : XS} {n : Nat} {σ : Mm} {a0 : Nat} (ha0 : RT n a0 105) {res : Int32 × Mm} (h : fX5_stepText_b69 a0 σ = some res) : J X mX5_stepText 9 0 0 (n, some (.int res.1), res.2) 69 [(0, .ref a0)] [] n σ := by
  unfold fX5_stepText_b69 at h
  refine J_aload_n (z := 0) dX5_stepText_69 rfl rfl (q := 70) rfl ?_
  obtain ⟨r8, er8, h⟩ := bindS h
  refine J_getR dX5_stepText_70 lRX5_21 ha0 rfl (by decide) er8 (q := 73) rfl (fun fr8 => ?_)
  obtain ⟨vk9, sk9, hk9, h⟩ := bnd2S h
  refine J_cVi (as := []) dX5_stepText_73 mRX5_46 fr8 (tX7_wrongHere fr8 hk9) rfl (Nat.le_of_ble_eq_true rfl) (Nat.le_of_ble_eq_true rfl) (Nat.le_of_ble_eq_true rfl) (q := 76) rfl ?_
  intro bk9
  have h := Option.some.inj h
  subst h
  exact J_ireturn dX5_stepText_76 rfl bk9 rfl

def fX5_stepText_b108 (a0 : Nat) (a1 : Int32) (a2 : Int32) (z0 : Nat) (z1 : Int32) (z2 : Int32) (z3 : Int32) (σ : Mm) : Option (Int32 × Mm) :=
  bnd2 (fX7_number z0 z1 z2 z3 σ) fun vk13 sk13 => if vk13 < 0 then some (0, sk13) else bnd2 (fX5_add a0 a1 a2 vk13 sk13) fun vk15 sk15 => if vk15 = 0 then some (0, sk15) else some (1, sk15)
set_option maxRecDepth 20000 in
set_option maxHeartbeats 2000000 in
theorem tX5_stepText_b108 {X : XS} {n : Nat} {σ : Mm} {a0 : Nat} {a1 : Int32} {a2 : Int32} {z0 : Nat} {z1 : Int32} {z2 : Int32} {z3 : Int32} (ha0 : RT n a0 105) (hz0 : RT n z0 107) {res : Int32 × Mm} (h : fX5_stepText_b108 a0 a1 a2 z0 z1 z2 z3 σ = some res) : J X mX5_stepText 9 0 0 (n, some (.int res.1), res.2) 108 [(0, .ref a0), (1, .int a1), (2, .int a2)] [.int z3, .int z2, .int z1, .ref z0] n σ := by
  unfold fX5_stepText_b108 at h
  obtain ⟨vk13, sk13, hk13, h⟩ := bnd2S h
  refine J_cVi (as := [.int z1, .int z2, .int z3]) dX5_stepText_108 mRX5_62 hz0 (tX7_number hz0 hk13) rfl (Nat.le_of_ble_eq_true rfl) (Nat.le_of_ble_eq_true rfl) (Nat.le_of_ble_eq_true rfl) (q := 111) rfl ?_
  intro bk13
  refine J_istore_n (lv' := [(3, .int vk13), (0, .ref a0), (1, .int a1), (2, .int a2)]) dX5_stepText_111 rfl (by decide) rfl (q := 112) rfl ?_
  refine J_iload_n (z := 0) dX5_stepText_112 rfl rfl (q := 113) rfl ?_
  refine J_if_lt (tgt := 130) dX5_stepText_113 (by decide) (q := 116) rfl (fun c13 => ?_) (fun c13 => ?_)
  · rw [if_pos c13] at h
    refine J_iconst (x := 0) dX5_stepText_130 (by decide) (q := 131) rfl ?_
    have h := Option.some.inj h
    subst h
    exact J_ireturn dX5_stepText_131 rfl rfl rfl
  · rw [if_neg c13] at h
    refine J_aload_n (z := 1) dX5_stepText_116 rfl rfl (q := 117) rfl ?_
    refine J_iload_n (z := 2) dX5_stepText_117 rfl rfl (q := 118) rfl ?_
    refine J_iload_n (z := 3) dX5_stepText_118 rfl rfl (q := 119) rfl ?_
    refine J_iload_n (z := 0) dX5_stepText_119 rfl rfl (q := 120) rfl ?_
    obtain ⟨vk15, sk15, hk15, h⟩ := bnd2S h
    refine J_cVi (as := [.int a1, .int a2, .int vk13]) dX5_stepText_120 mRX5_58 ha0 (tX5_add ha0 hk15) rfl (Nat.le_of_ble_eq_true rfl) (Nat.le_of_ble_eq_true rfl) (Nat.le_of_ble_eq_true rfl) (q := 123) rfl ?_
    intro bk15
    refine J_if_eq (tgt := 130) dX5_stepText_123 (by decide) (q := 126) rfl (fun c15 => ?_) (fun c15 => ?_)
    · rw [if_pos c15] at h
      refine J_iconst (x := 0) dX5_stepText_130 (by decide) (q := 131) rfl ?_
      have h := Option.some.inj h
      subst h
      exact J_ireturn dX5_stepText_131 rfl rfl rfl
    · rw [if_neg c15] at h
      refine J_iconst (x := 1) dX5_stepText_126 (by decide) (q := 127) rfl ?_
      refine J_goto (tgt := 131) dX5_stepText_127 (by decide) ?_
      have h := Option.some.inj h
      subst h
      exact J_ireturn dX5_stepText_131 rfl rfl rfl

def fX5_stepText (a0 : Nat) (σ : Mm) : Option (Int32 × Mm) :=
  (gR σ a0 0).bind fun r1 => bnd2 (fX7_nextOf r1 (1100 + 2 * 4) σ) fun vk2 sk2 => if 0 ≤ vk2 then (gR sk2 a0 0).bind fun r4 => if vk2 = 3 then bnd2 (fX5_add a0 vk2 (-1) (-1) (sI sk2 r4 2 ((gI sk2 r4 2) + 1))) fun vk17 sk17 => some (vk17, sk17) else bnd2 (fX7_next r4 (sI sk2 r4 2 ((gI sk2 r4 2) + 1))) fun vk6 sk6 => if (vk6 - 48) < 0 then fX5_stepText_b69 a0 sk6 else if (vk6 - 48) ≤ 9 then (gR sk6 a0 0).bind fun r11 => if vk2 = 2 then fX5_stepText_b108 a0 vk2 (vk6 - 48) r11 2 0 29 (sI sk6 r11 2 ((gI sk6 r11 2) + 1)) else fX5_stepText_b108 a0 vk2 (vk6 - 48) r11 2 0 11 (sI sk6 r11 2 ((gI sk6 r11 2) + 1)) else fX5_stepText_b69 a0 sk6 else (gR sk2 a0 0).bind fun r18 => bnd2 (fX7_wrongHere r18 sk2) fun vk19 sk19 => some (vk19, sk19)
set_option maxRecDepth 20000 in
set_option maxHeartbeats 2000000 in
theorem tX5_stepText {X : XS} {n : Nat} {σ : Mm} {a0 : Nat} (ha0 : RT n a0 105) {res : Int32 × Mm} (h : fX5_stepText a0 σ = some res) : MT X yX5_stepText mX5_stepText 9 0 0 [.ref a0] n σ (n, some (.int res.1), res.2) := by
  unfold fX5_stepText at h
  refine MT_of (by decide +kernel) rfl (fun h => by cases h) (Nat.le_of_ble_eq_true rfl) ?_
  show J X mX5_stepText 9 0 0 (n, some (.int res.1), res.2) 0 [(0, .ref a0)] [] n σ
  refine J_aload_n (z := 0) dX5_stepText_0 rfl rfl (q := 1) rfl ?_
  obtain ⟨r1, er1, h⟩ := bindS h
  refine J_getR dX5_stepText_1 lRX5_21 ha0 rfl (by decide) er1 (q := 4) rfl (fun fr1 => ?_)
  refine J_ldcS (tx := "rcgn") (j := 4) dX5_stepText_4 (by decide +kernel) (q := 6) rfl ?_
  obtain ⟨vk2, sk2, hk2, h⟩ := bnd2S h
  refine J_cVi (as := [.ref (1100 + 2 * 4)]) dX5_stepText_6 mRX5_51 fr1 (tX7_nextOf fr1 (rtS_4 _) hk2) rfl (Nat.le_of_ble_eq_true rfl) (Nat.le_of_ble_eq_true rfl) (Nat.le_of_ble_eq_true rfl) (q := 9) rfl ?_
  intro bk2
  refine J_istore_n (lv' := [(1, .int vk2), (0, .ref a0)]) dX5_stepText_9 rfl (by decide) rfl (q := 10) rfl ?_
  refine J_iload_n (z := 0) dX5_stepText_10 rfl rfl (q := 11) rfl ?_
  refine J_if_ge (tgt := 22) dX5_stepText_11 (by decide) (q := 14) rfl (fun c2 => ?_) (fun c2 => ?_)
  · rw [if_pos c2] at h
    refine J_aload_n (z := 1) dX5_stepText_22 rfl rfl (q := 23) rfl ?_
    obtain ⟨r4, er4, h⟩ := bindS h
    refine J_getR dX5_stepText_23 lRX5_21 ha0 rfl (by decide) er4 (q := 26) rfl (fun fr4 => ?_)
    refine J_dup dX5_stepText_26 rfl (q := 27) rfl ?_
    refine J_getI dX5_stepText_27 lRX5_55 fr4 rfl (q := 30) rfl ?_
    refine J_iconst (x := 1) dX5_stepText_30 (by decide) (q := 31) rfl ?_
    refine J_iadd dX5_stepText_31  (q := 32) rfl ?_
    refine J_putI dX5_stepText_32 lRX5_55 (fun h => by cases h) fr4 rfl (q := 35) rfl ?_
    refine J_iload_n (z := 0) dX5_stepText_35 rfl rfl (q := 36) rfl ?_
    refine J_iconst (x := 3) dX5_stepText_36 (by decide) (q := 37) rfl ?_
    refine J_icmp_ne (tgt := 48) dX5_stepText_37 (by decide) (q := 40) rfl (fun c4 => ?_) (fun c4 => ?_)
    · rw [if_neg c4] at h
      refine J_aload_n (z := 1) dX5_stepText_48 rfl rfl (q := 49) rfl ?_
      refine J_getR dX5_stepText_49 lRX5_21 ha0 rfl (by decide) er4 (q := 52) rfl (fun _ => ?_)
      obtain ⟨vk6, sk6, hk6, h⟩ := bnd2S h
      refine J_cVi (as := []) dX5_stepText_52 mRX5_42 fr4 (tX7_next fr4 hk6) rfl (Nat.le_of_ble_eq_true rfl) (Nat.le_of_ble_eq_true rfl) (Nat.le_of_ble_eq_true rfl) (q := 55) rfl ?_
      intro bk6
      refine J_bipush (x := 48) dX5_stepText_55 (by decide) (q := 57) rfl ?_
      refine J_isub dX5_stepText_57  (q := 58) rfl ?_
      refine J_istore_n (lv' := [(2, .int (vk6 - 48)), (1, .int vk2), (0, .ref a0)]) dX5_stepText_58 rfl (by decide) rfl (q := 59) rfl ?_
      refine J_iload_n (z := 0) dX5_stepText_59 rfl rfl (q := 60) rfl ?_
      refine J_if_lt (tgt := 69) dX5_stepText_60 (by decide) (q := 63) rfl (fun c6 => ?_) (fun c6 => ?_)
      · rw [if_pos c6] at h
        refine J_pick [2] rfl ?_
        exact tX5_stepText_b69 ha0 h
      · rw [if_neg c6] at h
        refine J_iload_n (z := 0) dX5_stepText_63 rfl rfl (q := 64) rfl ?_
        refine J_bipush (x := 9) dX5_stepText_64 (by decide) (q := 66) rfl ?_
        refine J_icmp_le (tgt := 77) dX5_stepText_66 (by decide) (q := 69) rfl (fun c9 => ?_) (fun c9 => ?_)
        · rw [if_pos c9] at h
          refine J_aload_n (z := 2) dX5_stepText_77 rfl rfl (q := 78) rfl ?_
          obtain ⟨r11, er11, h⟩ := bindS h
          refine J_getR dX5_stepText_78 lRX5_21 ha0 rfl (by decide) er11 (q := 81) rfl (fun fr11 => ?_)
          refine J_dup dX5_stepText_81 rfl (q := 82) rfl ?_
          refine J_getI dX5_stepText_82 lRX5_55 fr11 rfl (q := 85) rfl ?_
          refine J_iconst (x := 1) dX5_stepText_85 (by decide) (q := 86) rfl ?_
          refine J_iadd dX5_stepText_86  (q := 87) rfl ?_
          refine J_putI dX5_stepText_87 lRX5_55 (fun h => by cases h) fr11 rfl (q := 90) rfl ?_
          refine J_aload_n (z := 2) dX5_stepText_90 rfl rfl (q := 91) rfl ?_
          refine J_getR dX5_stepText_91 lRX5_21 ha0 rfl (by decide) er11 (q := 94) rfl (fun _ => ?_)
          refine J_iconst (x := 2) dX5_stepText_94 (by decide) (q := 95) rfl ?_
          refine J_iconst (x := 0) dX5_stepText_95 (by decide) (q := 96) rfl ?_
          refine J_iload_n (z := 1) dX5_stepText_96 rfl rfl (q := 97) rfl ?_
          refine J_iconst (x := 2) dX5_stepText_97 (by decide) (q := 98) rfl ?_
          refine J_icmp_ne (tgt := 106) dX5_stepText_98 (by decide) (q := 101) rfl (fun c11 => ?_) (fun c11 => ?_)
          · rw [if_neg c11] at h
            refine J_bipush (x := 11) dX5_stepText_106 (by decide) (q := 108) rfl ?_
            refine J_pick [2, 1, 0] rfl ?_
            exact tX5_stepText_b108 ha0 fr11 h
          · rw [if_pos c11] at h
            refine J_bipush (x := 29) dX5_stepText_101 (by decide) (q := 103) rfl ?_
            refine J_goto (tgt := 108) dX5_stepText_103 (by decide) ?_
            refine J_pick [2, 1, 0] rfl ?_
            exact tX5_stepText_b108 ha0 fr11 h
        · rw [if_neg c9] at h
          refine J_pick [2] rfl ?_
          exact tX5_stepText_b69 ha0 h
    · rw [if_pos c4] at h
      refine J_aload_n (z := 1) dX5_stepText_40 rfl rfl (q := 41) rfl ?_
      refine J_iload_n (z := 0) dX5_stepText_41 rfl rfl (q := 42) rfl ?_
      refine J_iconst (x := (-1)) dX5_stepText_42 (by decide) (q := 43) rfl ?_
      refine J_iconst (x := (-1)) dX5_stepText_43 (by decide) (q := 44) rfl ?_
      obtain ⟨vk17, sk17, hk17, h⟩ := bnd2S h
      refine J_cVi (as := [.int vk2, .int (-1), .int (-1)]) dX5_stepText_44 mRX5_58 ha0 (tX5_add ha0 hk17) rfl (Nat.le_of_ble_eq_true rfl) (Nat.le_of_ble_eq_true rfl) (Nat.le_of_ble_eq_true rfl) (q := 47) rfl ?_
      intro bk17
      have h := Option.some.inj h
      subst h
      exact J_ireturn dX5_stepText_47 rfl bk17 rfl
  · rw [if_neg c2] at h
    refine J_aload_n (z := 1) dX5_stepText_14 rfl rfl (q := 15) rfl ?_
    obtain ⟨r18, er18, h⟩ := bindS h
    refine J_getR dX5_stepText_15 lRX5_21 ha0 rfl (by decide) er18 (q := 18) rfl (fun fr18 => ?_)
    obtain ⟨vk19, sk19, hk19, h⟩ := bnd2S h
    refine J_cVi (as := []) dX5_stepText_18 mRX5_46 fr18 (tX7_wrongHere fr18 hk19) rfl (Nat.le_of_ble_eq_true rfl) (Nat.le_of_ble_eq_true rfl) (Nat.le_of_ble_eq_true rfl) (q := 21) rfl ?_
    intro bk19
    have h := Option.some.inj h
    subst h
    exact J_ireturn dX5_stepText_21 rfl bk19 rfl

def fX5_parse_b61 (a0 : Nat) (a2 : Int32) (z0 : Int32) (σ : Mm) : Option ((Int32 × Int32 × Mm) ⊕ ((Int32 × Mm) ⊕ Mm)) :=
  some (Sum.inl (z0, (a2 + 1), σ))
set_option maxRecDepth 20000 in
set_option maxHeartbeats 2000000 in
theorem tX5_parse_b61 {X : XS} {n : Nat} {σ : Mm} {F : Nat × Option Value × Mm} {a0 : Nat} {a2 : Int32} {z0 : Int32} (ha0 : RT n a0 105) {res : (Int32 × Int32 × Mm) ⊕ ((Int32 × Mm) ⊕ Mm)} (h : fX5_parse_b61 a0 a2 z0 σ = some res) (hc : ∀ (b1 : Int32) (b2 : Int32) (s : Mm), res = .inl (b1, b2, s) → J X mX5_parse 10 0 0 F 16 [(0, .ref a0), (1, .int b1), (2, .int b2)] [] n s) (he0 : ∀  (s : Mm), res = .inr (Sum.inr s) → J X mX5_parse 10 0 0 F 68 [(0, .ref a0)] [] n s) (hr : ∀ (v : Int32) (s : Mm), res = .inr (Sum.inl (v, s)) → F = (n, some (.int v), s)) : J X mX5_parse 10 0 0 F 61 [(0, .ref a0), (2, .int a2)] [.int z0] n σ := by
  unfold fX5_parse_b61 at h
  refine J_istore_n (lv' := [(1, .int z0), (0, .ref a0), (2, .int a2)]) dX5_parse_61 rfl (by decide) rfl (q := 62) rfl ?_
  refine J_iinc (z := 2) (y := (a2 + 1)) (lv' := [(2, .int (a2 + 1)), (1, .int z0), (0, .ref a0)]) dX5_parse_62 rfl rfl (by decide) rfl (q := 65) rfl ?_
  refine J_goto (tgt := 16) dX5_parse_65 (by decide) ?_
  have h := Option.some.inj h
  refine J_pick [2, 1, 0] rfl ?_
  exact hc _ _ _ h.symm

def fX5_parse_b60 (a0 : Nat) (a2 : Int32) (σ : Mm) : Option ((Int32 × Int32 × Mm) ⊕ ((Int32 × Mm) ⊕ Mm)) :=
  fX5_parse_b61 a0 a2 0 σ
set_option maxRecDepth 20000 in
set_option maxHeartbeats 2000000 in
theorem tX5_parse_b60 {X : XS} {n : Nat} {σ : Mm} {F : Nat × Option Value × Mm} {a0 : Nat} {a2 : Int32} (ha0 : RT n a0 105) {res : (Int32 × Int32 × Mm) ⊕ ((Int32 × Mm) ⊕ Mm)} (h : fX5_parse_b60 a0 a2 σ = some res) (hc : ∀ (b1 : Int32) (b2 : Int32) (s : Mm), res = .inl (b1, b2, s) → J X mX5_parse 10 0 0 F 16 [(0, .ref a0), (1, .int b1), (2, .int b2)] [] n s) (he0 : ∀  (s : Mm), res = .inr (Sum.inr s) → J X mX5_parse 10 0 0 F 68 [(0, .ref a0)] [] n s) (hr : ∀ (v : Int32) (s : Mm), res = .inr (Sum.inl (v, s)) → F = (n, some (.int v), s)) : J X mX5_parse 10 0 0 F 60 [(0, .ref a0), (2, .int a2)] [] n σ := by
  unfold fX5_parse_b60 at h
  refine J_iconst (x := 0) dX5_parse_60 (by decide) (q := 61) rfl ?_
  refine J_pick [0, 1] rfl ?_
  exact tX5_parse_b61 ha0 h hc he0 hr

def fX5_parse_l16 (a0 : Nat) (a1 : Int32) (a2 : Int32) (σ : Mm) : Option ((Int32 × Int32 × Mm) ⊕ ((Int32 × Mm) ⊕ Mm)) :=
  if a1 = 0 then some (Sum.inr (Sum.inr σ)) else if 16 ≤ a2 then some (Sum.inr (Sum.inr σ)) else bnd2 (fX5_stepText a0 σ) fun vk5 sk5 => if vk5 = 0 then some (Sum.inr (Sum.inl (0, sk5))) else if 16 ≤ (gI sk5 a0 4) then fX5_parse_b60 a0 a2 sk5 else (gR sk5 a0 0).bind fun r8 => bnd2 (fX7_goOver r8 59 sk5) fun vk9 sk9 => if vk9 = 0 then fX5_parse_b60 a0 a2 sk9 else fX5_parse_b61 a0 a2 1 sk9
set_option maxRecDepth 20000 in
set_option maxHeartbeats 2000000 in
theorem tX5_parse_l16 {X : XS} {n : Nat} {σ : Mm} {F : Nat × Option Value × Mm} {a0 : Nat} {a1 : Int32} {a2 : Int32} (ha0 : RT n a0 105) {res : (Int32 × Int32 × Mm) ⊕ ((Int32 × Mm) ⊕ Mm)} (h : fX5_parse_l16 a0 a1 a2 σ = some res) (hc : ∀ (b1 : Int32) (b2 : Int32) (s : Mm), res = .inl (b1, b2, s) → J X mX5_parse 10 0 0 F 16 [(0, .ref a0), (1, .int b1), (2, .int b2)] [] n s) (he0 : ∀  (s : Mm), res = .inr (Sum.inr s) → J X mX5_parse 10 0 0 F 68 [(0, .ref a0)] [] n s) (hr : ∀ (v : Int32) (s : Mm), res = .inr (Sum.inl (v, s)) → F = (n, some (.int v), s)) : J X mX5_parse 10 0 0 F 16 [(0, .ref a0), (1, .int a1), (2, .int a2)] [] n σ := by
  unfold fX5_parse_l16 at h
  refine J_iload_n (z := 1) dX5_parse_16 rfl rfl (q := 17) rfl ?_
  refine J_if_eq (tgt := 68) dX5_parse_17 (by decide) (q := 20) rfl (fun c2 => ?_) (fun c2 => ?_)
  · rw [if_pos c2] at h
    have h := Option.some.inj h
    refine J_pick [0] rfl ?_
    exact he0 _ h.symm
  · rw [if_neg c2] at h
    refine J_iload_n (z := 2) dX5_parse_20 rfl rfl (q := 21) rfl ?_
    refine J_bipush (x := 16) dX5_parse_21 (by decide) (q := 23) rfl ?_
    refine J_icmp_ge (tgt := 68) dX5_parse_23 (by decide) (q := 26) rfl (fun c3 => ?_) (fun c3 => ?_)
    · rw [if_pos c3] at h
      have h := Option.some.inj h
      refine J_pick [0] rfl ?_
      exact he0 _ h.symm
    · rw [if_neg c3] at h
      refine J_aload_n (z := 0) dX5_parse_26 rfl rfl (q := 27) rfl ?_
      obtain ⟨vk5, sk5, hk5, h⟩ := bnd2S h
      refine J_cVi (as := []) dX5_parse_27 mRX5_34 ha0 (tX5_stepText ha0 hk5) rfl (Nat.le_of_ble_eq_true rfl) (Nat.le_of_ble_eq_true rfl) (Nat.le_of_ble_eq_true rfl) (q := 30) rfl ?_
      intro bk5
      refine J_if_ne (tgt := 35) dX5_parse_30 (by decide) (q := 33) rfl (fun c5 => ?_) (fun c5 => ?_)
      · rw [if_neg c5] at h
        refine J_aload_n (z := 0) dX5_parse_35 rfl rfl (q := 36) rfl ?_
        refine J_getI dX5_parse_36 lRX5_25 ha0 rfl (q := 39) rfl ?_
        refine J_bipush (x := 16) dX5_parse_39 (by decide) (q := 41) rfl ?_
        refine J_icmp_ge (tgt := 60) dX5_parse_41 (by decide) (q := 44) rfl (fun c6 => ?_) (fun c6 => ?_)
        · rw [if_pos c6] at h
          refine J_pick [0, 2] rfl ?_
          exact tX5_parse_b60 ha0 h hc he0 hr
        · rw [if_neg c6] at h
          refine J_aload_n (z := 0) dX5_parse_44 rfl rfl (q := 45) rfl ?_
          obtain ⟨r8, er8, h⟩ := bindS h
          refine J_getR dX5_parse_45 lRX5_21 ha0 rfl (by decide) er8 (q := 48) rfl (fun fr8 => ?_)
          refine J_bipush (x := 59) dX5_parse_48 (by decide) (q := 50) rfl ?_
          obtain ⟨vk9, sk9, hk9, h⟩ := bnd2S h
          refine J_cVi (as := [.int 59]) dX5_parse_50 mRX5_38 fr8 (tX7_goOver fr8 hk9) rfl (Nat.le_of_ble_eq_true rfl) (Nat.le_of_ble_eq_true rfl) (Nat.le_of_ble_eq_true rfl) (q := 53) rfl ?_
          intro bk9
          refine J_if_eq (tgt := 60) dX5_parse_53 (by decide) (q := 56) rfl (fun c9 => ?_) (fun c9 => ?_)
          · rw [if_pos c9] at h
            refine J_pick [0, 2] rfl ?_
            exact tX5_parse_b60 ha0 h hc he0 hr
          · rw [if_neg c9] at h
            refine J_iconst (x := 1) dX5_parse_56 (by decide) (q := 57) rfl ?_
            refine J_goto (tgt := 61) dX5_parse_57 (by decide) ?_
            refine J_pick [0, 2] rfl ?_
            exact tX5_parse_b61 ha0 h hc he0 hr
      · rw [if_pos c5] at h
        refine J_iconst (x := 0) dX5_parse_33 (by decide) (q := 34) rfl ?_
        have h := Option.some.inj h
        exact J_ireturn dX5_parse_34 rfl rfl (hr _ _ h.symm)

def fX5_parse_w16 (a0 : Nat) (a1 : Int32) (a2 : Int32) (σ : Mm) : Option ((Int32 × Mm) ⊕ Mm) :=
  wh (fun a : Int32 × Int32 × Mm => fX5_parse_l16 a0 a.1 a.2.1 a.2.2) BIG (a1, a2, σ)
set_option maxRecDepth 20000 in
set_option maxHeartbeats 2000000 in
theorem tX5_parse_w16 {X : XS} {n : Nat} {σ : Mm} {F : Nat × Option Value × Mm} {a0 : Nat} {a1 : Int32} {a2 : Int32} (ha0 : RT n a0 105) {res : (Int32 × Mm) ⊕ Mm} (h : fX5_parse_w16 a0 a1 a2 σ = some res) (he0 : ∀  (s : Mm), res = (Sum.inr s) → J X mX5_parse 10 0 0 F 68 [(0, .ref a0)] [] n s) (hr : ∀ (v : Int32) (s : Mm), res = (Sum.inl (v, s)) → F = (n, some (.int v), s)) : J X mX5_parse 10 0 0 F 16 [(0, .ref a0), (1, .int a1), (2, .int a2)] [] n σ := by
  unfold fX5_parse_w16 at h
  refine wh_rule (P := fun a : Int32 × Int32 × Mm => J X mX5_parse 10 0 0 F 16 [(0, .ref a0), (1, .int a.1), (2, .int a.2.1)] [] n a.2.2) (K := fun b => b = res) ?_ _ _ _ h rfl
  intro a
  refine ⟨fun a2 hb hP => ?_, fun b hb hK => ?_⟩
  · exact tX5_parse_l16 ha0 hb (fun _ _ _ e => by cases e; exact hP) (fun _ e => by cases e) (fun _ _ e => by cases e)
  · subst hK
    exact tX5_parse_l16 ha0 hb (fun _ _ _ e => by cases e) (fun v0 e => he0 v0 (Sum.inr.inj e)) (fun v0 v1 e => hr v0 v1 (Sum.inr.inj e))

def fX5_parse_b68 (a0 : Nat) (σ : Mm) : Option (Int32 × Mm) :=
  (gR σ a0 0).bind fun r12 => bnd2 (fX7_next r12 σ) fun vk13 sk13 => if vk13 = (-1) then some (1, sk13) else (gR sk13 a0 0).bind fun r15 => bnd2 (fX7_wrongHere r15 sk13) fun vk16 sk16 => if vk16 = 0 then some (0, sk16) else some (1, sk16)
set_option maxRecDepth 20000 in
set_option maxHeartbeats 2000000 in
theorem tX5_parse_b68 {X : XS} {n : Nat} {σ : Mm} {a0 : Nat} (ha0 : RT n a0 105) {res : Int32 × Mm} (h : fX5_parse_b68 a0 σ = some res) : J X mX5_parse 10 0 0 (n, some (.int res.1), res.2) 68 [(0, .ref a0)] [] n σ := by
  unfold fX5_parse_b68 at h
  refine J_aload_n (z := 0) dX5_parse_68 rfl rfl (q := 69) rfl ?_
  obtain ⟨r12, er12, h⟩ := bindS h
  refine J_getR dX5_parse_69 lRX5_21 ha0 rfl (by decide) er12 (q := 72) rfl (fun fr12 => ?_)
  obtain ⟨vk13, sk13, hk13, h⟩ := bnd2S h
  refine J_cVi (as := []) dX5_parse_72 mRX5_42 fr12 (tX7_next fr12 hk13) rfl (Nat.le_of_ble_eq_true rfl) (Nat.le_of_ble_eq_true rfl) (Nat.le_of_ble_eq_true rfl) (q := 75) rfl ?_
  intro bk13
  refine J_iconst (x := (-1)) dX5_parse_75 (by decide) (q := 76) rfl ?_
  refine J_icmp_eq (tgt := 89) dX5_parse_76 (by decide) (q := 79) rfl (fun c13 => ?_) (fun c13 => ?_)
  · rw [if_pos c13] at h
    refine J_iconst (x := 1) dX5_parse_89 (by decide) (q := 90) rfl ?_
    refine J_goto (tgt := 94) dX5_parse_90 (by decide) ?_
    have h := Option.some.inj h
    subst h
    exact J_ireturn dX5_parse_94 rfl rfl rfl
  · rw [if_neg c13] at h
    refine J_aload_n (z := 0) dX5_parse_79 rfl rfl (q := 80) rfl ?_
    obtain ⟨r15, er15, h⟩ := bindS h
    refine J_getR dX5_parse_80 lRX5_21 ha0 rfl (by decide) er15 (q := 83) rfl (fun fr15 => ?_)
    obtain ⟨vk16, sk16, hk16, h⟩ := bnd2S h
    refine J_cVi (as := []) dX5_parse_83 mRX5_46 fr15 (tX7_wrongHere fr15 hk16) rfl (Nat.le_of_ble_eq_true rfl) (Nat.le_of_ble_eq_true rfl) (Nat.le_of_ble_eq_true rfl) (q := 86) rfl ?_
    intro bk16
    refine J_if_eq (tgt := 93) dX5_parse_86 (by decide) (q := 89) rfl (fun c16 => ?_) (fun c16 => ?_)
    · rw [if_pos c16] at h
      refine J_iconst (x := 0) dX5_parse_93 (by decide) (q := 94) rfl ?_
      have h := Option.some.inj h
      subst h
      exact J_ireturn dX5_parse_94 rfl rfl rfl
    · rw [if_neg c16] at h
      refine J_iconst (x := 1) dX5_parse_89 (by decide) (q := 90) rfl ?_
      refine J_goto (tgt := 94) dX5_parse_90 (by decide) ?_
      have h := Option.some.inj h
      subst h
      exact J_ireturn dX5_parse_94 rfl rfl rfl

def fX5_parse (a0 : Nat) (σ : Mm) : Option (Int32 × Mm) :=
  (gR σ a0 0).bind fun r1 => (fX7_rewind r1 (sI σ a0 4 0)).bind fun sk2 => (fX5_parse_w16 a0 1 0 sk2).bind (Sum.elim (fun eo110 => some eo110) (fun eo111 => (fun so11 => fX5_parse_b68 a0 so11) eo111))
set_option maxRecDepth 20000 in
set_option maxHeartbeats 2000000 in
theorem tX5_parse {X : XS} {n : Nat} {σ : Mm} {a0 : Nat} (ha0 : RT n a0 105) {res : Int32 × Mm} (h : fX5_parse a0 σ = some res) : MT X yX5_parse mX5_parse 10 0 0 [.ref a0] n σ (n, some (.int res.1), res.2) := by
  unfold fX5_parse at h
  refine MT_of (by decide +kernel) rfl (fun h => by cases h) (Nat.le_of_ble_eq_true rfl) ?_
  show J X mX5_parse 10 0 0 (n, some (.int res.1), res.2) 0 [(0, .ref a0)] [] n σ
  refine J_aload_n (z := 0) dX5_parse_0 rfl rfl (q := 1) rfl ?_
  refine J_iconst (x := 0) dX5_parse_1 (by decide) (q := 2) rfl ?_
  refine J_putI dX5_parse_2 lRX5_25 (fun h => by cases h) ha0 rfl (q := 5) rfl ?_
  refine J_aload_n (z := 0) dX5_parse_5 rfl rfl (q := 6) rfl ?_
  obtain ⟨r1, er1, h⟩ := bindS h
  refine J_getR dX5_parse_6 lRX5_21 ha0 rfl (by decide) er1 (q := 9) rfl (fun fr1 => ?_)
  obtain ⟨sk2, hk2, h⟩ := bindS h
  refine J_cVv (as := []) dX5_parse_9 mRX5_29 fr1 (tX7_rewind fr1 hk2) rfl (Nat.le_of_ble_eq_true rfl) (Nat.le_of_ble_eq_true rfl) (Nat.le_of_ble_eq_true rfl) (q := 12) rfl ?_
  refine J_iconst (x := 1) dX5_parse_12 (by decide) (q := 13) rfl ?_
  refine J_istore_n (lv' := [(1, .int 1), (0, .ref a0)]) dX5_parse_13 rfl (by decide) rfl (q := 14) rfl ?_
  refine J_iconst (x := 0) dX5_parse_14 (by decide) (q := 15) rfl ?_
  refine J_istore_n (lv' := [(2, .int 0), (1, .int 1), (0, .ref a0)]) dX5_parse_15 rfl (by decide) rfl (q := 16) rfl ?_
  obtain ⟨o11, hlo11, h⟩ := bindS h
  refine J_pick [2, 1, 0] rfl ?_
  refine tX5_parse_w16 ha0 hlo11 ?_ ?_
  · intro so11 qo11
    rw [qo11] at h
    try dsimp only [Sum.elim_inl, Sum.elim_inr] at h
    refine J_pick [0] rfl ?_
    exact tX5_parse_b68 ha0 h
  · intro vo11 so11 qo11
    rw [qo11] at h
    try dsimp only [Sum.elim_inl, Sum.elim_inr] at h
    have h := Option.some.inj h
    subst h
    rfl

def fX5_hasStep (a0 : Nat) (a1 : Int32) (σ : Mm) : Option (Int32) :=
  if a1 < 0 then some 0 else if (gI σ a0 4) ≤ a1 then some 0 else if 16 ≤ a1 then some 0 else some 1
set_option maxRecDepth 20000 in
set_option maxHeartbeats 2000000 in
theorem tX5_hasStep {X : XS} {n : Nat} {σ : Mm} {a0 : Nat} {a1 : Int32} (ha0 : RT n a0 105) {res : Int32} (h : fX5_hasStep a0 a1 σ = some res) : MT X yX5_hasStep mX5_hasStep 1 0 0 [.ref a0, .int a1] n σ (n, some (.int res), σ) := by
  unfold fX5_hasStep at h
  refine MT_of (by decide +kernel) rfl (fun h => by cases h) (Nat.le_of_ble_eq_true rfl) ?_
  show J X mX5_hasStep 1 0 0 (n, some (.int res), σ) 0 [(0, .ref a0), (1, .int a1)] [] n σ
  refine J_iload_n (z := 1) dX5_hasStep_0 rfl rfl (q := 1) rfl ?_
  refine J_if_lt (tgt := 22) dX5_hasStep_1 (by decide) (q := 4) rfl (fun c0 => ?_) (fun c0 => ?_)
  · rw [if_pos c0] at h
    refine J_iconst (x := 0) dX5_hasStep_22 (by decide) (q := 23) rfl ?_
    have h := Option.some.inj h
    subst h
    exact J_ireturn dX5_hasStep_23 rfl rfl rfl
  · rw [if_neg c0] at h
    refine J_iload_n (z := 1) dX5_hasStep_4 rfl rfl (q := 5) rfl ?_
    refine J_aload_n (z := 0) dX5_hasStep_5 rfl rfl (q := 6) rfl ?_
    refine J_getI dX5_hasStep_6 lRX5_25 ha0 rfl (q := 9) rfl ?_
    refine J_icmp_ge (tgt := 22) dX5_hasStep_9 (by decide) (q := 12) rfl (fun c1 => ?_) (fun c1 => ?_)
    · rw [if_pos c1] at h
      refine J_iconst (x := 0) dX5_hasStep_22 (by decide) (q := 23) rfl ?_
      have h := Option.some.inj h
      subst h
      exact J_ireturn dX5_hasStep_23 rfl rfl rfl
    · rw [if_neg c1] at h
      refine J_iload_n (z := 1) dX5_hasStep_12 rfl rfl (q := 13) rfl ?_
      refine J_bipush (x := 16) dX5_hasStep_13 (by decide) (q := 15) rfl ?_
      refine J_icmp_ge (tgt := 22) dX5_hasStep_15 (by decide) (q := 18) rfl (fun c2 => ?_) (fun c2 => ?_)
      · rw [if_pos c2] at h
        refine J_iconst (x := 0) dX5_hasStep_22 (by decide) (q := 23) rfl ?_
        have h := Option.some.inj h
        subst h
        exact J_ireturn dX5_hasStep_23 rfl rfl rfl
      · rw [if_neg c2] at h
        refine J_iconst (x := 1) dX5_hasStep_18 (by decide) (q := 19) rfl ?_
        refine J_goto (tgt := 23) dX5_hasStep_19 (by decide) ?_
        have h := Option.some.inj h
        subst h
        exact J_ireturn dX5_hasStep_23 rfl rfl rfl

def fX5_tellStep (a0 : Nat) (a1 : Int32) (a2 : Int32) (σ : Mm) : Option (Int32) :=
  (fX5_hasStep a0 a1 σ).bind fun vk1 => if vk1 = 0 then some (-1000000) else if a2 = 0 then (gR σ a0 1).bind fun r3 => if ixB a1 (ln r3) = true then some (gI σ r3 (Int32.toNatClampNeg a1)) else none else if a2 = 1 then (gR σ a0 2).bind fun r5 => if ixB a1 (ln r5) = true then some (gI σ r5 (Int32.toNatClampNeg a1)) else none else if a2 = 2 then (gR σ a0 3).bind fun r7 => if ixB a1 (ln r7) = true then some (gI σ r7 (Int32.toNatClampNeg a1)) else none else some (-1000000)
set_option maxRecDepth 20000 in
set_option maxHeartbeats 2000000 in
theorem tX5_tellStep {X : XS} {n : Nat} {σ : Mm} {a0 : Nat} {a1 : Int32} {a2 : Int32} (ha0 : RT n a0 105) {res : Int32} (h : fX5_tellStep a0 a1 a2 σ = some res) : MT X yX5_tellStep mX5_tellStep 2 0 0 [.ref a0, .int a1, .int a2] n σ (n, some (.int res), σ) := by
  unfold fX5_tellStep at h
  refine MT_of (by decide +kernel) rfl (fun h => by cases h) (Nat.le_of_ble_eq_true rfl) ?_
  show J X mX5_tellStep 2 0 0 (n, some (.int res), σ) 0 [(0, .ref a0), (1, .int a1), (2, .int a2)] [] n σ
  refine J_aload_n (z := 0) dX5_tellStep_0 rfl rfl (q := 1) rfl ?_
  refine J_iload_n (z := 1) dX5_tellStep_1 rfl rfl (q := 2) rfl ?_
  obtain ⟨vk1, hk1, h⟩ := bindS h
  refine J_cVi (as := [.int a1]) dX5_tellStep_2 mRX5_66 ha0 (tX5_hasStep ha0 hk1) rfl (Nat.le_of_ble_eq_true rfl) (Nat.le_of_ble_eq_true rfl) (Nat.le_of_ble_eq_true rfl) (q := 5) rfl ?_
  intro bk1
  refine J_if_ne (tgt := 11) dX5_tellStep_5 (by decide) (q := 8) rfl (fun c1 => ?_) (fun c1 => ?_)
  · rw [if_neg c1] at h
    refine J_iload_n (z := 2) dX5_tellStep_11 rfl rfl (q := 12) rfl ?_
    refine J_table dX5_tellStep_12 [(0, 40), (1, 47), (2, 54)] 61 (by decide) (by decide) (by decide) ?_ ?_
    · refine List.forall_mem_cons.mpr ⟨fun hx => ?_, List.forall_mem_cons.mpr ⟨fun hx => ?_, List.forall_mem_cons.mpr ⟨fun hx => ?_, fun _ hh => absurd hh List.not_mem_nil⟩⟩⟩
      · replace hx : a2 = 0 := hx
        rw [if_pos hx] at h
        refine J_aload_n (z := 0) dX5_tellStep_40 rfl rfl (q := 41) rfl ?_
        obtain ⟨r3, er3, h⟩ := bindS h
        refine J_getR dX5_tellStep_41 lRX5_9 ha0 rfl (by decide) er3 (q := 44) rfl (fun fr3 => ?_)
        refine J_iload_n (z := 1) dX5_tellStep_44 rfl rfl (q := 45) rfl ?_
        obtain ⟨g4, h⟩ := iteS h
        refine J_iald dX5_tellStep_45 fr3 (ixB_ok g4) (q := 46) rfl ?_
        have h := Option.some.inj h
        subst h
        exact J_ireturn dX5_tellStep_46 rfl rfl rfl
      · replace hx : a2 = 1 := hx
        rw [if_neg (by rw [hx]; decide), if_pos hx] at h
        refine J_aload_n (z := 0) dX5_tellStep_47 rfl rfl (q := 48) rfl ?_
        obtain ⟨r5, er5, h⟩ := bindS h
        refine J_getR dX5_tellStep_48 lRX5_15 ha0 rfl (by decide) er5 (q := 51) rfl (fun fr5 => ?_)
        refine J_iload_n (z := 1) dX5_tellStep_51 rfl rfl (q := 52) rfl ?_
        obtain ⟨g6, h⟩ := iteS h
        refine J_iald dX5_tellStep_52 fr5 (ixB_ok g6) (q := 53) rfl ?_
        have h := Option.some.inj h
        subst h
        exact J_ireturn dX5_tellStep_53 rfl rfl rfl
      · replace hx : a2 = 2 := hx
        rw [if_neg (by rw [hx]; decide), if_neg (by rw [hx]; decide), if_pos hx] at h
        refine J_aload_n (z := 0) dX5_tellStep_54 rfl rfl (q := 55) rfl ?_
        obtain ⟨r7, er7, h⟩ := bindS h
        refine J_getR dX5_tellStep_55 lRX5_18 ha0 rfl (by decide) er7 (q := 58) rfl (fun fr7 => ?_)
        refine J_iload_n (z := 1) dX5_tellStep_58 rfl rfl (q := 59) rfl ?_
        obtain ⟨g8, h⟩ := iteS h
        refine J_iald dX5_tellStep_59 fr7 (ixB_ok g8) (q := 60) rfl ?_
        have h := Option.some.inj h
        subst h
        exact J_ireturn dX5_tellStep_60 rfl rfl rfl
    · intro hx
      rw [if_neg (hx (0, 40) (by decide)), if_neg (hx (1, 47) (by decide)), if_neg (hx (2, 54) (by decide))] at h
      refine J_ldc (x := (-1000000)) dX5_tellStep_61 kRX5_69 (q := 63) rfl ?_
      have h := Option.some.inj h
      subst h
      exact J_ireturn dX5_tellStep_63 rfl rfl rfl
  · rw [if_pos c1] at h
    refine J_ldc (x := (-1000000)) dX5_tellStep_8 kRX5_69 (q := 10) rfl ?_
    have h := Option.some.inj h
    subst h
    exact J_ireturn dX5_tellStep_10 rfl rfl rfl

def fX5_actOf (a0 : Nat) (a1 : Int32) (σ : Mm) : Option (Int32) :=
  (fX5_hasStep a0 a1 σ).bind fun vk1 => if vk1 = 0 then some (-1) else (gR σ a0 1).bind fun r3 => if ixB a1 (ln r3) = true then if (gI σ r3 (Int32.toNatClampNeg a1)) = 3 then some 4 else if ixB a1 (ln r3) = true then some (gI σ r3 (Int32.toNatClampNeg a1)) else none else none
set_option maxRecDepth 20000 in
set_option maxHeartbeats 2000000 in
theorem tX5_actOf {X : XS} {n : Nat} {σ : Mm} {a0 : Nat} {a1 : Int32} (ha0 : RT n a0 105) {res : Int32} (h : fX5_actOf a0 a1 σ = some res) : MT X yX5_actOf mX5_actOf 2 0 0 [.ref a0, .int a1] n σ (n, some (.int res), σ) := by
  unfold fX5_actOf at h
  refine MT_of (by decide +kernel) rfl (fun h => by cases h) (Nat.le_of_ble_eq_true rfl) ?_
  show J X mX5_actOf 2 0 0 (n, some (.int res), σ) 0 [(0, .ref a0), (1, .int a1)] [] n σ
  refine J_aload_n (z := 0) dX5_actOf_0 rfl rfl (q := 1) rfl ?_
  refine J_iload_n (z := 1) dX5_actOf_1 rfl rfl (q := 2) rfl ?_
  obtain ⟨vk1, hk1, h⟩ := bindS h
  refine J_cVi (as := [.int a1]) dX5_actOf_2 mRX5_66 ha0 (tX5_hasStep ha0 hk1) rfl (Nat.le_of_ble_eq_true rfl) (Nat.le_of_ble_eq_true rfl) (Nat.le_of_ble_eq_true rfl) (q := 5) rfl ?_
  intro bk1
  refine J_if_ne (tgt := 10) dX5_actOf_5 (by decide) (q := 8) rfl (fun c1 => ?_) (fun c1 => ?_)
  · rw [if_neg c1] at h
    refine J_aload_n (z := 0) dX5_actOf_10 rfl rfl (q := 11) rfl ?_
    obtain ⟨r3, er3, h⟩ := bindS h
    refine J_getR dX5_actOf_11 lRX5_9 ha0 rfl (by decide) er3 (q := 14) rfl (fun fr3 => ?_)
    refine J_iload_n (z := 1) dX5_actOf_14 rfl rfl (q := 15) rfl ?_
    obtain ⟨g4, h⟩ := iteS h
    refine J_iald dX5_actOf_15 fr3 (ixB_ok g4) (q := 16) rfl ?_
    refine J_iconst (x := 3) dX5_actOf_16 (by decide) (q := 17) rfl ?_
    refine J_icmp_ne (tgt := 24) dX5_actOf_17 (by decide) (q := 20) rfl (fun c4 => ?_) (fun c4 => ?_)
    · rw [if_neg c4] at h
      refine J_aload_n (z := 0) dX5_actOf_24 rfl rfl (q := 25) rfl ?_
      refine J_getR dX5_actOf_25 lRX5_9 ha0 rfl (by decide) er3 (q := 28) rfl (fun _ => ?_)
      refine J_iload_n (z := 1) dX5_actOf_28 rfl rfl (q := 29) rfl ?_
      obtain ⟨g6, h⟩ := iteS h
      refine J_iald dX5_actOf_29 fr3 (ixB_ok g6) (q := 30) rfl ?_
      have h := Option.some.inj h
      subst h
      exact J_ireturn dX5_actOf_30 rfl rfl rfl
    · rw [if_pos c4] at h
      refine J_iconst (x := 4) dX5_actOf_20 (by decide) (q := 21) rfl ?_
      refine J_goto (tgt := 30) dX5_actOf_21 (by decide) ?_
      have h := Option.some.inj h
      subst h
      exact J_ireturn dX5_actOf_30 rfl rfl rfl
  · rw [if_pos c1] at h
    refine J_iconst (x := (-1)) dX5_actOf_8 (by decide) (q := 9) rfl ?_
    have h := Option.some.inj h
    subst h
    exact J_ireturn dX5_actOf_9 rfl rfl rfl

def fX5_readerOf (a0 : Nat) (a1 : Int32) (σ : Mm) : Option (Int32) :=
  (fX5_hasStep a0 a1 σ).bind fun vk1 => if vk1 = 0 then some (-1) else (gR σ a0 2).bind fun r3 => if ixB a1 (ln r3) = true then some (gI σ r3 (Int32.toNatClampNeg a1)) else none
set_option maxRecDepth 20000 in
set_option maxHeartbeats 2000000 in
theorem tX5_readerOf {X : XS} {n : Nat} {σ : Mm} {a0 : Nat} {a1 : Int32} (ha0 : RT n a0 105) {res : Int32} (h : fX5_readerOf a0 a1 σ = some res) : MT X yX5_readerOf mX5_readerOf 2 0 0 [.ref a0, .int a1] n σ (n, some (.int res), σ) := by
  unfold fX5_readerOf at h
  refine MT_of (by decide +kernel) rfl (fun h => by cases h) (Nat.le_of_ble_eq_true rfl) ?_
  show J X mX5_readerOf 2 0 0 (n, some (.int res), σ) 0 [(0, .ref a0), (1, .int a1)] [] n σ
  refine J_aload_n (z := 0) dX5_readerOf_0 rfl rfl (q := 1) rfl ?_
  refine J_iload_n (z := 1) dX5_readerOf_1 rfl rfl (q := 2) rfl ?_
  obtain ⟨vk1, hk1, h⟩ := bindS h
  refine J_cVi (as := [.int a1]) dX5_readerOf_2 mRX5_66 ha0 (tX5_hasStep ha0 hk1) rfl (Nat.le_of_ble_eq_true rfl) (Nat.le_of_ble_eq_true rfl) (Nat.le_of_ble_eq_true rfl) (q := 5) rfl ?_
  intro bk1
  refine J_if_eq (tgt := 17) dX5_readerOf_5 (by decide) (q := 8) rfl (fun c1 => ?_) (fun c1 => ?_)
  · rw [if_pos c1] at h
    refine J_iconst (x := (-1)) dX5_readerOf_17 (by decide) (q := 18) rfl ?_
    have h := Option.some.inj h
    subst h
    exact J_ireturn dX5_readerOf_18 rfl rfl rfl
  · rw [if_neg c1] at h
    refine J_aload_n (z := 0) dX5_readerOf_8 rfl rfl (q := 9) rfl ?_
    obtain ⟨r3, er3, h⟩ := bindS h
    refine J_getR dX5_readerOf_9 lRX5_15 ha0 rfl (by decide) er3 (q := 12) rfl (fun fr3 => ?_)
    refine J_iload_n (z := 1) dX5_readerOf_12 rfl rfl (q := 13) rfl ?_
    obtain ⟨g4, h⟩ := iteS h
    refine J_iald dX5_readerOf_13 fr3 (ixB_ok g4) (q := 14) rfl ?_
    refine J_goto (tgt := 18) dX5_readerOf_14 (by decide) ?_
    have h := Option.some.inj h
    subst h
    exact J_ireturn dX5_readerOf_18 rfl rfl rfl

def fX5_targetOf (a0 : Nat) (a1 : Int32) (σ : Mm) : Option (Int32) :=
  (fX5_hasStep a0 a1 σ).bind fun vk1 => if vk1 = 0 then some (-1) else (gR σ a0 3).bind fun r3 => if ixB a1 (ln r3) = true then some (gI σ r3 (Int32.toNatClampNeg a1)) else none
set_option maxRecDepth 20000 in
set_option maxHeartbeats 2000000 in
theorem tX5_targetOf {X : XS} {n : Nat} {σ : Mm} {a0 : Nat} {a1 : Int32} (ha0 : RT n a0 105) {res : Int32} (h : fX5_targetOf a0 a1 σ = some res) : MT X yX5_targetOf mX5_targetOf 2 0 0 [.ref a0, .int a1] n σ (n, some (.int res), σ) := by
  unfold fX5_targetOf at h
  refine MT_of (by decide +kernel) rfl (fun h => by cases h) (Nat.le_of_ble_eq_true rfl) ?_
  show J X mX5_targetOf 2 0 0 (n, some (.int res), σ) 0 [(0, .ref a0), (1, .int a1)] [] n σ
  refine J_aload_n (z := 0) dX5_targetOf_0 rfl rfl (q := 1) rfl ?_
  refine J_iload_n (z := 1) dX5_targetOf_1 rfl rfl (q := 2) rfl ?_
  obtain ⟨vk1, hk1, h⟩ := bindS h
  refine J_cVi (as := [.int a1]) dX5_targetOf_2 mRX5_66 ha0 (tX5_hasStep ha0 hk1) rfl (Nat.le_of_ble_eq_true rfl) (Nat.le_of_ble_eq_true rfl) (Nat.le_of_ble_eq_true rfl) (q := 5) rfl ?_
  intro bk1
  refine J_if_eq (tgt := 17) dX5_targetOf_5 (by decide) (q := 8) rfl (fun c1 => ?_) (fun c1 => ?_)
  · rw [if_pos c1] at h
    refine J_iconst (x := (-1)) dX5_targetOf_17 (by decide) (q := 18) rfl ?_
    have h := Option.some.inj h
    subst h
    exact J_ireturn dX5_targetOf_18 rfl rfl rfl
  · rw [if_neg c1] at h
    refine J_aload_n (z := 0) dX5_targetOf_8 rfl rfl (q := 9) rfl ?_
    obtain ⟨r3, er3, h⟩ := bindS h
    refine J_getR dX5_targetOf_9 lRX5_18 ha0 rfl (by decide) er3 (q := 12) rfl (fun fr3 => ?_)
    refine J_iload_n (z := 1) dX5_targetOf_12 rfl rfl (q := 13) rfl ?_
    obtain ⟨g4, h⟩ := iteS h
    refine J_iald dX5_targetOf_13 fr3 (ixB_ok g4) (q := 14) rfl ?_
    refine J_goto (tgt := 18) dX5_targetOf_14 (by decide) ?_
    have h := Option.some.inj h
    subst h
    exact J_ireturn dX5_targetOf_18 rfl rfl rfl

def fX6_startIn_b53 (a0 : Nat) (a1 : Nat) (a2 : Int32) (z0 : Nat) (z1 : Int32) (z2 : Int32) (σ : Mm) : Option ((Int32 × Mm) ⊕ (Mm)) :=
  if ixB z1 (ln z0) = true then some (Sum.inl ((a2 + 1), (sI σ z0 (Int32.toNatClampNeg z1) z2))) else none
set_option maxRecDepth 20000 in
set_option maxHeartbeats 2000000 in
theorem tX6_startIn_b53 {X : XS} {n : Nat} {σ : Mm} {F : Nat × Option Value × Mm} {a0 : Nat} {a1 : Nat} {a2 : Int32} {z0 : Nat} {z1 : Int32} {z2 : Int32} (ha0 : RT n a0 106) (ha1 : RT n a1 101) (hz0 : RT n z0 200) {res : (Int32 × Mm) ⊕ (Mm)} (h : fX6_startIn_b53 a0 a1 a2 z0 z1 z2 σ = some res) (hc : ∀ (b2 : Int32) (s : Mm), res = .inl (b2, s) → J X mX6_startIn 3 0 0 F 2 [(0, .ref a0), (1, .ref a1), (2, .int b2)] [] n s) (he0 : ∀  (s : Mm), res = .inr s → J X mX6_startIn 3 0 0 F 60 [(0, .ref a0), (1, .ref a1)] [] n s) : J X mX6_startIn 3 0 0 F 53 [(0, .ref a0), (1, .ref a1), (2, .int a2)] [.int z2, .int z1, .ref z0] n σ := by
  unfold fX6_startIn_b53 at h
  obtain ⟨g9, h⟩ := iteS h
  refine J_iast dX6_startIn_53 hz0 (ixB_ok g9) (q := 54) rfl ?_
  refine J_iinc (z := 2) (y := (a2 + 1)) (lv' := [(2, .int (a2 + 1)), (0, .ref a0), (1, .ref a1)]) dX6_startIn_54 rfl rfl (by decide) rfl (q := 57) rfl ?_
  refine J_goto (tgt := 2) dX6_startIn_57 (by decide) ?_
  have h := Option.some.inj h
  refine J_pick [1, 2, 0] rfl ?_
  exact hc _ _ h.symm

def fX6_startIn_b30 (a0 : Nat) (a1 : Nat) (a2 : Int32) (z0 : Nat) (z1 : Int32) (z2 : Int32) (σ : Mm) : Option ((Int32 × Mm) ⊕ (Mm)) :=
  if ixB z1 (ln z0) = true then (gR σ a0 1).bind fun r6 => (fX1_hasPage a1 a2 (sI σ z0 (Int32.toNatClampNeg z1) z2)).bind fun vk7 => if vk7 = 0 then fX6_startIn_b53 a0 a1 a2 r6 a2 0 (sI σ z0 (Int32.toNatClampNeg z1) z2) else (fX1_pageSays a1 a2 (sI σ z0 (Int32.toNatClampNeg z1) z2)).bind fun vk10 => fX6_startIn_b53 a0 a1 a2 r6 a2 vk10 (sI σ z0 (Int32.toNatClampNeg z1) z2) else none
set_option maxRecDepth 20000 in
set_option maxHeartbeats 2000000 in
theorem tX6_startIn_b30 {X : XS} {n : Nat} {σ : Mm} {F : Nat × Option Value × Mm} {a0 : Nat} {a1 : Nat} {a2 : Int32} {z0 : Nat} {z1 : Int32} {z2 : Int32} (ha0 : RT n a0 106) (ha1 : RT n a1 101) (hz0 : RT n z0 200) {res : (Int32 × Mm) ⊕ (Mm)} (h : fX6_startIn_b30 a0 a1 a2 z0 z1 z2 σ = some res) (hc : ∀ (b2 : Int32) (s : Mm), res = .inl (b2, s) → J X mX6_startIn 3 0 0 F 2 [(0, .ref a0), (1, .ref a1), (2, .int b2)] [] n s) (he0 : ∀  (s : Mm), res = .inr s → J X mX6_startIn 3 0 0 F 60 [(0, .ref a0), (1, .ref a1)] [] n s) : J X mX6_startIn 3 0 0 F 30 [(0, .ref a0), (1, .ref a1), (2, .int a2)] [.int z2, .int z1, .ref z0] n σ := by
  unfold fX6_startIn_b30 at h
  obtain ⟨g5, h⟩ := iteS h
  refine J_iast dX6_startIn_30 hz0 (ixB_ok g5) (q := 31) rfl ?_
  refine J_aload_n (z := 0) dX6_startIn_31 rfl rfl (q := 32) rfl ?_
  obtain ⟨r6, er6, h⟩ := bindS h
  refine J_getR dX6_startIn_32 lRX6_15 ha0 rfl (by decide) er6 (q := 35) rfl (fun fr6 => ?_)
  refine J_iload_n (z := 2) dX6_startIn_35 rfl rfl (q := 36) rfl ?_
  refine J_aload_n (z := 1) dX6_startIn_36 rfl rfl (q := 37) rfl ?_
  refine J_iload_n (z := 2) dX6_startIn_37 rfl rfl (q := 38) rfl ?_
  obtain ⟨vk7, hk7, h⟩ := bindS h
  refine J_cVi (as := [.int a2]) dX6_startIn_38 mRX6_40 ha1 (tX1_hasPage ha1 hk7) rfl (Nat.le_of_ble_eq_true rfl) (Nat.le_of_ble_eq_true rfl) (Nat.le_of_ble_eq_true rfl) (q := 41) rfl ?_
  intro bk7
  refine J_if_eq (tgt := 52) dX6_startIn_41 (by decide) (q := 44) rfl (fun c7 => ?_) (fun c7 => ?_)
  · rw [if_pos c7] at h
    refine J_iconst (x := 0) dX6_startIn_52 (by decide) (q := 53) rfl ?_
    refine J_pick [0, 1, 2] rfl ?_
    exact tX6_startIn_b53 ha0 ha1 fr6 h hc he0
  · rw [if_neg c7] at h
    refine J_aload_n (z := 1) dX6_startIn_44 rfl rfl (q := 45) rfl ?_
    refine J_iload_n (z := 2) dX6_startIn_45 rfl rfl (q := 46) rfl ?_
    obtain ⟨vk10, hk10, h⟩ := bindS h
    refine J_cVi (as := [.int a2]) dX6_startIn_46 mRX6_50 ha1 (tX1_pageSays ha1 hk10) rfl (Nat.le_of_ble_eq_true rfl) (Nat.le_of_ble_eq_true rfl) (Nat.le_of_ble_eq_true rfl) (q := 49) rfl ?_
    intro bk10
    refine J_goto (tgt := 53) dX6_startIn_49 (by decide) ?_
    refine J_pick [0, 1, 2] rfl ?_
    exact tX6_startIn_b53 ha0 ha1 fr6 h hc he0

def fX6_startIn_l2 (a0 : Nat) (a1 : Nat) (a2 : Int32) (σ : Mm) : Option ((Int32 × Mm) ⊕ (Mm)) :=
  if 12 ≤ a2 then some (Sum.inr σ) else (gR σ a0 0).bind fun r2 => (fX1_hasPage a1 a2 σ).bind fun vk3 => if vk3 = 0 then fX6_startIn_b30 a0 a1 a2 r2 a2 0 σ else (fX1_pageDepth a1 a2 σ).bind fun vk11 => fX6_startIn_b30 a0 a1 a2 r2 a2 vk11 σ
set_option maxRecDepth 20000 in
set_option maxHeartbeats 2000000 in
theorem tX6_startIn_l2 {X : XS} {n : Nat} {σ : Mm} {F : Nat × Option Value × Mm} {a0 : Nat} {a1 : Nat} {a2 : Int32} (ha0 : RT n a0 106) (ha1 : RT n a1 101) {res : (Int32 × Mm) ⊕ (Mm)} (h : fX6_startIn_l2 a0 a1 a2 σ = some res) (hc : ∀ (b2 : Int32) (s : Mm), res = .inl (b2, s) → J X mX6_startIn 3 0 0 F 2 [(0, .ref a0), (1, .ref a1), (2, .int b2)] [] n s) (he0 : ∀  (s : Mm), res = .inr s → J X mX6_startIn 3 0 0 F 60 [(0, .ref a0), (1, .ref a1)] [] n s) : J X mX6_startIn 3 0 0 F 2 [(0, .ref a0), (1, .ref a1), (2, .int a2)] [] n σ := by
  unfold fX6_startIn_l2 at h
  refine J_iload_n (z := 2) dX6_startIn_2 rfl rfl (q := 3) rfl ?_
  refine J_bipush (x := 12) dX6_startIn_3 (by decide) (q := 5) rfl ?_
  refine J_icmp_ge (tgt := 60) dX6_startIn_5 (by decide) (q := 8) rfl (fun c0 => ?_) (fun c0 => ?_)
  · rw [if_pos c0] at h
    have h := Option.some.inj h
    refine J_pick [0, 1] rfl ?_
    exact he0 _ h.symm
  · rw [if_neg c0] at h
    refine J_aload_n (z := 0) dX6_startIn_8 rfl rfl (q := 9) rfl ?_
    obtain ⟨r2, er2, h⟩ := bindS h
    refine J_getR dX6_startIn_9 lRX6_9 ha0 rfl (by decide) er2 (q := 12) rfl (fun fr2 => ?_)
    refine J_iload_n (z := 2) dX6_startIn_12 rfl rfl (q := 13) rfl ?_
    refine J_aload_n (z := 1) dX6_startIn_13 rfl rfl (q := 14) rfl ?_
    refine J_iload_n (z := 2) dX6_startIn_14 rfl rfl (q := 15) rfl ?_
    obtain ⟨vk3, hk3, h⟩ := bindS h
    refine J_cVi (as := [.int a2]) dX6_startIn_15 mRX6_40 ha1 (tX1_hasPage ha1 hk3) rfl (Nat.le_of_ble_eq_true rfl) (Nat.le_of_ble_eq_true rfl) (Nat.le_of_ble_eq_true rfl) (q := 18) rfl ?_
    intro bk3
    refine J_if_eq (tgt := 29) dX6_startIn_18 (by decide) (q := 21) rfl (fun c3 => ?_) (fun c3 => ?_)
    · rw [if_pos c3] at h
      refine J_iconst (x := 0) dX6_startIn_29 (by decide) (q := 30) rfl ?_
      refine J_pick [0, 1, 2] rfl ?_
      exact tX6_startIn_b30 ha0 ha1 fr2 h hc he0
    · rw [if_neg c3] at h
      refine J_aload_n (z := 1) dX6_startIn_21 rfl rfl (q := 22) rfl ?_
      refine J_iload_n (z := 2) dX6_startIn_22 rfl rfl (q := 23) rfl ?_
      obtain ⟨vk11, hk11, h⟩ := bindS h
      refine J_cVi (as := [.int a2]) dX6_startIn_23 mRX6_46 ha1 (tX1_pageDepth ha1 hk11) rfl (Nat.le_of_ble_eq_true rfl) (Nat.le_of_ble_eq_true rfl) (Nat.le_of_ble_eq_true rfl) (q := 26) rfl ?_
      intro bk11
      refine J_goto (tgt := 30) dX6_startIn_26 (by decide) ?_
      refine J_pick [0, 1, 2] rfl ?_
      exact tX6_startIn_b30 ha0 ha1 fr2 h hc he0

def fX6_startIn_w2 (a0 : Nat) (a1 : Nat) (a2 : Int32) (σ : Mm) : Option (Mm) :=
  wh (fun a : Int32 × Mm => fX6_startIn_l2 a0 a1 a.1 a.2) BIG (a2, σ)
set_option maxRecDepth 20000 in
set_option maxHeartbeats 2000000 in
theorem tX6_startIn_w2 {X : XS} {n : Nat} {σ : Mm} {F : Nat × Option Value × Mm} {a0 : Nat} {a1 : Nat} {a2 : Int32} (ha0 : RT n a0 106) (ha1 : RT n a1 101) {res : Mm} (h : fX6_startIn_w2 a0 a1 a2 σ = some res) (he0 : ∀  (s : Mm), res = s → J X mX6_startIn 3 0 0 F 60 [(0, .ref a0), (1, .ref a1)] [] n s) : J X mX6_startIn 3 0 0 F 2 [(0, .ref a0), (1, .ref a1), (2, .int a2)] [] n σ := by
  unfold fX6_startIn_w2 at h
  refine wh_rule (P := fun a : Int32 × Mm => J X mX6_startIn 3 0 0 F 2 [(0, .ref a0), (1, .ref a1), (2, .int a.1)] [] n a.2) (K := fun b => b = res) ?_ _ _ _ h rfl
  intro a
  refine ⟨fun a2 hb hP => ?_, fun b hb hK => ?_⟩
  · exact tX6_startIn_l2 ha0 ha1 hb (fun _ _ e => by cases e; exact hP) (fun _ e => by cases e)
  · subst hK
    exact tX6_startIn_l2 ha0 ha1 hb (fun _ _ e => by cases e) (fun v0 e => he0 v0 (Sum.inr.inj e))

def fX6_startIn_b90 (a0 : Nat) (a1 : Nat) (a2 : Int32) (z0 : Nat) (z1 : Int32) (z2 : Int32) (σ : Mm) : Option ((Int32 × Mm) ⊕ (Mm)) :=
  if ixB z1 (ln z0) = true then some (Sum.inl ((a2 + 1), (sI σ z0 (Int32.toNatClampNeg z1) z2))) else none
set_option maxRecDepth 20000 in
set_option maxHeartbeats 2000000 in
theorem tX6_startIn_b90 {X : XS} {n : Nat} {σ : Mm} {F : Nat × Option Value × Mm} {a0 : Nat} {a1 : Nat} {a2 : Int32} {z0 : Nat} {z1 : Int32} {z2 : Int32} (ha0 : RT n a0 106) (ha1 : RT n a1 101) (hz0 : RT n z0 200) {res : (Int32 × Mm) ⊕ (Mm)} (h : fX6_startIn_b90 a0 a1 a2 z0 z1 z2 σ = some res) (hc : ∀ (b2 : Int32) (s : Mm), res = .inl (b2, s) → J X mX6_startIn 3 0 0 F 62 [(0, .ref a0), (1, .ref a1), (2, .int b2)] [] n s) (he0 : ∀  (s : Mm), res = .inr s → J X mX6_startIn 3 0 0 F 97 [(0, .ref a0), (1, .ref a1)] [] n s) : J X mX6_startIn 3 0 0 F 90 [(0, .ref a0), (1, .ref a1), (2, .int a2)] [.int z2, .int z1, .ref z0] n σ := by
  unfold fX6_startIn_b90 at h
  obtain ⟨g17, h⟩ := iteS h
  refine J_iast dX6_startIn_90 hz0 (ixB_ok g17) (q := 91) rfl ?_
  refine J_iinc (z := 2) (y := (a2 + 1)) (lv' := [(2, .int (a2 + 1)), (0, .ref a0), (1, .ref a1)]) dX6_startIn_91 rfl rfl (by decide) rfl (q := 94) rfl ?_
  refine J_goto (tgt := 62) dX6_startIn_94 (by decide) ?_
  have h := Option.some.inj h
  refine J_pick [1, 2, 0] rfl ?_
  exact hc _ _ h.symm

def fX6_startIn_l62 (a0 : Nat) (a1 : Nat) (a2 : Int32) (σ : Mm) : Option ((Int32 × Mm) ⊕ (Mm)) :=
  if 6 ≤ a2 then some (Sum.inr σ) else (gR σ a0 2).bind fun r14 => (fX1_hasReader a1 a2 σ).bind fun vk15 => if vk15 = 0 then fX6_startIn_b90 a0 a1 a2 r14 a2 0 σ else (fX1_readerCell a1 a2 σ).bind fun vk18 => fX6_startIn_b90 a0 a1 a2 r14 a2 vk18 σ
set_option maxRecDepth 20000 in
set_option maxHeartbeats 2000000 in
theorem tX6_startIn_l62 {X : XS} {n : Nat} {σ : Mm} {F : Nat × Option Value × Mm} {a0 : Nat} {a1 : Nat} {a2 : Int32} (ha0 : RT n a0 106) (ha1 : RT n a1 101) {res : (Int32 × Mm) ⊕ (Mm)} (h : fX6_startIn_l62 a0 a1 a2 σ = some res) (hc : ∀ (b2 : Int32) (s : Mm), res = .inl (b2, s) → J X mX6_startIn 3 0 0 F 62 [(0, .ref a0), (1, .ref a1), (2, .int b2)] [] n s) (he0 : ∀  (s : Mm), res = .inr s → J X mX6_startIn 3 0 0 F 97 [(0, .ref a0), (1, .ref a1)] [] n s) : J X mX6_startIn 3 0 0 F 62 [(0, .ref a0), (1, .ref a1), (2, .int a2)] [] n σ := by
  unfold fX6_startIn_l62 at h
  refine J_iload_n (z := 2) dX6_startIn_62 rfl rfl (q := 63) rfl ?_
  refine J_bipush (x := 6) dX6_startIn_63 (by decide) (q := 65) rfl ?_
  refine J_icmp_ge (tgt := 97) dX6_startIn_65 (by decide) (q := 68) rfl (fun c12 => ?_) (fun c12 => ?_)
  · rw [if_pos c12] at h
    have h := Option.some.inj h
    refine J_pick [0, 1] rfl ?_
    exact he0 _ h.symm
  · rw [if_neg c12] at h
    refine J_aload_n (z := 0) dX6_startIn_68 rfl rfl (q := 69) rfl ?_
    obtain ⟨r14, er14, h⟩ := bindS h
    refine J_getR dX6_startIn_69 lRX6_18 ha0 rfl (by decide) er14 (q := 72) rfl (fun fr14 => ?_)
    refine J_iload_n (z := 2) dX6_startIn_72 rfl rfl (q := 73) rfl ?_
    refine J_aload_n (z := 1) dX6_startIn_73 rfl rfl (q := 74) rfl ?_
    refine J_iload_n (z := 2) dX6_startIn_74 rfl rfl (q := 75) rfl ?_
    obtain ⟨vk15, hk15, h⟩ := bindS h
    refine J_cVi (as := [.int a2]) dX6_startIn_75 mRX6_53 ha1 (tX1_hasReader ha1 hk15) rfl (Nat.le_of_ble_eq_true rfl) (Nat.le_of_ble_eq_true rfl) (Nat.le_of_ble_eq_true rfl) (q := 78) rfl ?_
    intro bk15
    refine J_if_eq (tgt := 89) dX6_startIn_78 (by decide) (q := 81) rfl (fun c15 => ?_) (fun c15 => ?_)
    · rw [if_pos c15] at h
      refine J_iconst (x := 0) dX6_startIn_89 (by decide) (q := 90) rfl ?_
      refine J_pick [0, 1, 2] rfl ?_
      exact tX6_startIn_b90 ha0 ha1 fr14 h hc he0
    · rw [if_neg c15] at h
      refine J_aload_n (z := 1) dX6_startIn_81 rfl rfl (q := 82) rfl ?_
      refine J_iload_n (z := 2) dX6_startIn_82 rfl rfl (q := 83) rfl ?_
      obtain ⟨vk18, hk18, h⟩ := bindS h
      refine J_cVi (as := [.int a2]) dX6_startIn_83 mRX6_56 ha1 (tX1_readerCell ha1 hk18) rfl (Nat.le_of_ble_eq_true rfl) (Nat.le_of_ble_eq_true rfl) (Nat.le_of_ble_eq_true rfl) (q := 86) rfl ?_
      intro bk18
      refine J_goto (tgt := 90) dX6_startIn_86 (by decide) ?_
      refine J_pick [0, 1, 2] rfl ?_
      exact tX6_startIn_b90 ha0 ha1 fr14 h hc he0

def fX6_startIn_w62 (a0 : Nat) (a1 : Nat) (a2 : Int32) (σ : Mm) : Option (Mm) :=
  wh (fun a : Int32 × Mm => fX6_startIn_l62 a0 a1 a.1 a.2) BIG (a2, σ)
set_option maxRecDepth 20000 in
set_option maxHeartbeats 2000000 in
theorem tX6_startIn_w62 {X : XS} {n : Nat} {σ : Mm} {F : Nat × Option Value × Mm} {a0 : Nat} {a1 : Nat} {a2 : Int32} (ha0 : RT n a0 106) (ha1 : RT n a1 101) {res : Mm} (h : fX6_startIn_w62 a0 a1 a2 σ = some res) (he0 : ∀  (s : Mm), res = s → J X mX6_startIn 3 0 0 F 97 [(0, .ref a0), (1, .ref a1)] [] n s) : J X mX6_startIn 3 0 0 F 62 [(0, .ref a0), (1, .ref a1), (2, .int a2)] [] n σ := by
  unfold fX6_startIn_w62 at h
  refine wh_rule (P := fun a : Int32 × Mm => J X mX6_startIn 3 0 0 F 62 [(0, .ref a0), (1, .ref a1), (2, .int a.1)] [] n a.2) (K := fun b => b = res) ?_ _ _ _ h rfl
  intro a
  refine ⟨fun a2 hb hP => ?_, fun b hb hK => ?_⟩
  · exact tX6_startIn_l62 ha0 ha1 hb (fun _ _ e => by cases e; exact hP) (fun _ e => by cases e)
  · subst hK
    exact tX6_startIn_l62 ha0 ha1 hb (fun _ _ e => by cases e) (fun v0 e => he0 v0 (Sum.inr.inj e))

def fX6_startIn (a0 : Nat) (a1 : Nat) (σ : Mm) : Option (Mm) :=
  (fX6_startIn_w2 a0 a1 0 σ).bind (fun o12 => (fun so12 => (fX6_startIn_w62 a0 a1 0 so12).bind (fun o19 => (fun so19 => (gR so19 a0 3).bind fun r20 => (fJ7_fill_53178 r20 (-1) so19).bind fun sk21 => (fX1_coldAtFirst a1 (sI sk21 a0 4 0)).bind fun vk22 => some (sI (sI (sI sk21 a0 4 0) a0 5 vk22) a0 6 0)) o19)) o12)
set_option maxRecDepth 20000 in
set_option maxHeartbeats 2000000 in
theorem tX6_startIn {X : XS} {n : Nat} {σ : Mm} {a0 : Nat} {a1 : Nat} (ha0 : RT n a0 106) (ha1 : RT n a1 101) {res : Mm} (h : fX6_startIn a0 a1 σ = some res) : MT X yX6_startIn mX6_startIn 3 0 0 [.ref a0, .ref a1] n σ (n, none, res) := by
  unfold fX6_startIn at h
  refine MT_of (by decide +kernel) rfl (fun h => by cases h) (Nat.le_of_ble_eq_true rfl) ?_
  show J X mX6_startIn 3 0 0 (n, none, res) 0 [(0, .ref a0), (1, .ref a1)] [] n σ
  refine J_iconst (x := 0) dX6_startIn_0 (by decide) (q := 1) rfl ?_
  refine J_istore_n (lv' := [(2, .int 0), (0, .ref a0), (1, .ref a1)]) dX6_startIn_1 rfl (by decide) rfl (q := 2) rfl ?_
  obtain ⟨o12, hlo12, h⟩ := bindS h
  refine J_pick [1, 2, 0] rfl ?_
  refine tX6_startIn_w2 ha0 ha1 hlo12 ?_
  · intro so12 qo12
    rw [qo12] at h
    try dsimp only [Sum.elim_inl, Sum.elim_inr] at h
    refine J_iconst (x := 0) dX6_startIn_60 (by decide) (q := 61) rfl ?_
    refine J_istore_n (lv' := [(2, .int 0), (0, .ref a0), (1, .ref a1)]) dX6_startIn_61 rfl (by decide) rfl (q := 62) rfl ?_
    obtain ⟨o19, hlo19, h⟩ := bindS h
    refine J_pick [1, 2, 0] rfl ?_
    refine tX6_startIn_w62 ha0 ha1 hlo19 ?_
    · intro so19 qo19
      rw [qo19] at h
      try dsimp only [Sum.elim_inl, Sum.elim_inr] at h
      refine J_aload_n (z := 0) dX6_startIn_97 rfl rfl (q := 98) rfl ?_
      obtain ⟨r20, er20, h⟩ := bindS h
      refine J_getR dX6_startIn_98 lRX6_21 ha0 rfl (by decide) er20 (q := 101) rfl (fun fr20 => ?_)
      refine J_iconst (x := (-1)) dX6_startIn_101 (by decide) (q := 102) rfl ?_
      obtain ⟨sk21, hk21, h⟩ := bindS h
      refine J_cSv (as := [.ref r20, .int (-1)]) dX6_startIn_102 mRX6_59 (tJ7_fill_53178 fr20 hk21) rfl (Nat.le_of_ble_eq_true rfl) (Nat.le_of_ble_eq_true rfl) (Nat.le_of_ble_eq_true rfl) (q := 105) rfl ?_
      refine J_aload_n (z := 0) dX6_startIn_105 rfl rfl (q := 106) rfl ?_
      refine J_iconst (x := 0) dX6_startIn_106 (by decide) (q := 107) rfl ?_
      refine J_putI dX6_startIn_107 lRX6_30 (fun h => by cases h) ha0 rfl (q := 110) rfl ?_
      refine J_aload_n (z := 0) dX6_startIn_110 rfl rfl (q := 111) rfl ?_
      refine J_aload_n (z := 1) dX6_startIn_111 rfl rfl (q := 112) rfl ?_
      obtain ⟨vk22, hk22, h⟩ := bindS h
      refine J_cVi (as := []) dX6_startIn_112 mRX6_65 ha1 (tX1_coldAtFirst ha1 hk22) rfl (Nat.le_of_ble_eq_true rfl) (Nat.le_of_ble_eq_true rfl) (Nat.le_of_ble_eq_true rfl) (q := 115) rfl ?_
      intro bk22
      refine J_putI dX6_startIn_115 lRX6_34 (fun h => by cases h) ha0 rfl (q := 118) rfl ?_
      refine J_aload_n (z := 0) dX6_startIn_118 rfl rfl (q := 119) rfl ?_
      refine J_iconst (x := 0) dX6_startIn_119 (by decide) (q := 120) rfl ?_
      refine J_putI dX6_startIn_120 lRX6_37 (fun h => by cases h) ha0 rfl (q := 123) rfl ?_
      have h := Option.some.inj h
      subst h
      exact J_return dX6_startIn_123 rfl rfl

def fX6_slip (a0 : Nat) (a1 : Int32) (a2 : Int32) (σ : Mm) : Option (Mm) :=
  (fX6_isMemory a1 a2 σ).bind fun vk1 => if vk1 = 0 then some σ else (gR σ a0 1).bind fun r3 => if ixB a2 (ln r3) = true then if ixB a2 (ln r3) = true then if ixB a2 (ln r3) = true then (fX6_learn a0 a1 a2 (gI (sI σ r3 (Int32.toNatClampNeg a2) (remI ((gI σ r3 (Int32.toNatClampNeg a2)) + 1) 10)) r3 (Int32.toNatClampNeg a2)) (sI σ r3 (Int32.toNatClampNeg a2) (remI ((gI σ r3 (Int32.toNatClampNeg a2)) + 1) 10))).bind fun sk7 => some sk7 else none else none else none
set_option maxRecDepth 20000 in
set_option maxHeartbeats 2000000 in
theorem tX6_slip {X : XS} {n : Nat} {σ : Mm} {a0 : Nat} {a1 : Int32} {a2 : Int32} (ha0 : RT n a0 106) {res : Mm} (h : fX6_slip a0 a1 a2 σ = some res) : MT X yX6_slip mX6_slip 3 0 0 [.ref a0, .int a1, .int a2] n σ (n, none, res) := by
  unfold fX6_slip at h
  refine MT_of (by decide +kernel) rfl (fun h => by cases h) (Nat.le_of_ble_eq_true rfl) ?_
  show J X mX6_slip 3 0 0 (n, none, res) 0 [(0, .ref a0), (1, .int a1), (2, .int a2)] [] n σ
  refine J_iload_n (z := 1) dX6_slip_0 rfl rfl (q := 1) rfl ?_
  refine J_iload_n (z := 2) dX6_slip_1 rfl rfl (q := 2) rfl ?_
  obtain ⟨vk1, hk1, h⟩ := bindS h
  refine J_cSi (as := [.int a1, .int a2]) dX6_slip_2 mRX6_69 (tX6_isMemory  hk1) rfl (Nat.le_of_ble_eq_true rfl) (Nat.le_of_ble_eq_true rfl) (Nat.le_of_ble_eq_true rfl) (q := 5) rfl ?_
  intro bk1
  refine J_if_eq (tgt := 37) dX6_slip_5 (by decide) (q := 8) rfl (fun c1 => ?_) (fun c1 => ?_)
  · rw [if_pos c1] at h
    have h := Option.some.inj h
    subst h
    exact J_return dX6_slip_37 rfl rfl
  · rw [if_neg c1] at h
    refine J_aload_n (z := 0) dX6_slip_8 rfl rfl (q := 9) rfl ?_
    obtain ⟨r3, er3, h⟩ := bindS h
    refine J_getR dX6_slip_9 lRX6_15 ha0 rfl (by decide) er3 (q := 12) rfl (fun fr3 => ?_)
    refine J_iload_n (z := 2) dX6_slip_12 rfl rfl (q := 13) rfl ?_
    refine J_aload_n (z := 0) dX6_slip_13 rfl rfl (q := 14) rfl ?_
    refine J_getR dX6_slip_14 lRX6_15 ha0 rfl (by decide) er3 (q := 17) rfl (fun _ => ?_)
    refine J_iload_n (z := 2) dX6_slip_17 rfl rfl (q := 18) rfl ?_
    obtain ⟨g4, h⟩ := iteS h
    refine J_iald dX6_slip_18 fr3 (ixB_ok g4) (q := 19) rfl ?_
    refine J_iconst (x := 1) dX6_slip_19 (by decide) (q := 20) rfl ?_
    refine J_iadd dX6_slip_20  (q := 21) rfl ?_
    refine J_bipush (x := 10) dX6_slip_21 (by decide) (q := 23) rfl ?_
    refine J_irem dX6_slip_23 (by decide) (q := 24) rfl ?_
    obtain ⟨g5, h⟩ := iteS h
    refine J_iast dX6_slip_24 fr3 (ixB_ok g5) (q := 25) rfl ?_
    refine J_aload_n (z := 0) dX6_slip_25 rfl rfl (q := 26) rfl ?_
    refine J_iload_n (z := 1) dX6_slip_26 rfl rfl (q := 27) rfl ?_
    refine J_iload_n (z := 2) dX6_slip_27 rfl rfl (q := 28) rfl ?_
    refine J_aload_n (z := 0) dX6_slip_28 rfl rfl (q := 29) rfl ?_
    refine J_getR dX6_slip_29 lRX6_15 ha0 rfl (by decide) er3 (q := 32) rfl (fun _ => ?_)
    refine J_iload_n (z := 2) dX6_slip_32 rfl rfl (q := 33) rfl ?_
    obtain ⟨g6, h⟩ := iteS h
    refine J_iald dX6_slip_33 fr3 (ixB_ok g6) (q := 34) rfl ?_
    obtain ⟨sk7, hk7, h⟩ := bindS h
    refine J_cVv (as := [.int a1, .int a2, .int (gI (sI σ r3 (Int32.toNatClampNeg a2) (remI ((gI σ r3 (Int32.toNatClampNeg a2)) + 1) 10)) r3 (Int32.toNatClampNeg a2))]) dX6_slip_34 mRX6_82 ha0 (tX6_learn ha0 hk7) rfl (Nat.le_of_ble_eq_true rfl) (Nat.le_of_ble_eq_true rfl) (Nat.le_of_ble_eq_true rfl) (q := 37) rfl ?_
    have h := Option.some.inj h
    subst h
    exact J_return dX6_slip_37 rfl rfl

def fX7_append_b51 (a0 : Nat) (a1 : Int32) (a2 : Int32) (σ : Mm) : Option ((Int32 × Mm) ⊕ (Mm)) :=
  some (Sum.inl ((a2 + (-8)), σ))
set_option maxRecDepth 20000 in
set_option maxHeartbeats 2000000 in
theorem tX7_append_b51 {X : XS} {n : Nat} {σ : Mm} {F : Nat × Option Value × Mm} {a0 : Nat} {a1 : Int32} {a2 : Int32} (ha0 : RT n a0 107) {res : (Int32 × Mm) ⊕ (Mm)} (h : fX7_append_b51 a0 a1 a2 σ = some res) (hc : ∀ (b2 : Int32) (s : Mm), res = .inl (b2, s) → J X mX7_append 1 0 0 F 3 [(0, .ref a0), (1, .int a1), (2, .int b2)] [] n s) (hr : ∀ (s : Mm), res = .inr s → F = (n, none, s)) : J X mX7_append 1 0 0 F 51 [(0, .ref a0), (1, .int a1), (2, .int a2)] [] n σ := by
  unfold fX7_append_b51 at h
  refine J_iinc (z := 2) (y := (a2 + (-8))) (lv' := [(2, .int (a2 + (-8))), (0, .ref a0), (1, .int a1)]) dX7_append_51 rfl rfl (by decide) rfl (q := 54) rfl ?_
  refine J_goto (tgt := 3) dX7_append_54 (by decide) ?_
  have h := Option.some.inj h
  refine J_pick [1, 2, 0] rfl ?_
  exact hc _ _ h.symm

def fX7_append_l3 (a0 : Nat) (a1 : Int32) (a2 : Int32) (σ : Mm) : Option ((Int32 × Mm) ⊕ (Mm)) :=
  if a2 < 0 then some (Sum.inr σ) else if ((ushrI a1 a2) &&& 255) = 0 then fX7_append_b51 a0 a1 a2 σ else (gR σ a0 0).bind fun r3 => if (nI (ln r3)) ≤ (gI σ a0 1) then fX7_append_b51 a0 a1 a2 σ else if ixB (gI σ a0 1) (ln r3) = true then fX7_append_b51 a0 a1 a2 (sI (sI σ r3 (Int32.toNatClampNeg (gI σ a0 1)) ((ushrI a1 a2) &&& 255)) a0 1 ((gI (sI σ r3 (Int32.toNatClampNeg (gI σ a0 1)) ((ushrI a1 a2) &&& 255)) a0 1) + 1)) else none
set_option maxRecDepth 20000 in
set_option maxHeartbeats 2000000 in
theorem tX7_append_l3 {X : XS} {n : Nat} {σ : Mm} {F : Nat × Option Value × Mm} {a0 : Nat} {a1 : Int32} {a2 : Int32} (ha0 : RT n a0 107) {res : (Int32 × Mm) ⊕ (Mm)} (h : fX7_append_l3 a0 a1 a2 σ = some res) (hc : ∀ (b2 : Int32) (s : Mm), res = .inl (b2, s) → J X mX7_append 1 0 0 F 3 [(0, .ref a0), (1, .int a1), (2, .int b2)] [] n s) (hr : ∀ (s : Mm), res = .inr s → F = (n, none, s)) : J X mX7_append 1 0 0 F 3 [(0, .ref a0), (1, .int a1), (2, .int a2)] [] n σ := by
  unfold fX7_append_l3 at h
  refine J_iload_n (z := 2) dX7_append_3 rfl rfl (q := 4) rfl ?_
  refine J_if_lt (tgt := 57) dX7_append_4 (by decide) (q := 7) rfl (fun c0 => ?_) (fun c0 => ?_)
  · rw [if_pos c0] at h
    have h := Option.some.inj h
    exact J_return dX7_append_57 rfl (hr _ h.symm)
  · rw [if_neg c0] at h
    refine J_iload_n (z := 1) dX7_append_7 rfl rfl (q := 8) rfl ?_
    refine J_iload_n (z := 2) dX7_append_8 rfl rfl (q := 9) rfl ?_
    refine J_iushr dX7_append_9  (q := 10) rfl ?_
    refine J_sipush (x := 255) dX7_append_10 (by decide) (q := 13) rfl ?_
    refine J_iand dX7_append_13  (q := 14) rfl ?_
    refine J_istore_n (lv' := [(3, .int ((ushrI a1 a2) &&& 255)), (0, .ref a0), (1, .int a1), (2, .int a2)]) dX7_append_14 rfl (by decide) rfl (q := 15) rfl ?_
    refine J_iload_n (z := 0) dX7_append_15 rfl rfl (q := 16) rfl ?_
    refine J_if_eq (tgt := 51) dX7_append_16 (by decide) (q := 19) rfl (fun c1 => ?_) (fun c1 => ?_)
    · rw [if_pos c1] at h
      refine J_pick [1, 2, 3] rfl ?_
      exact tX7_append_b51 ha0 h hc hr
    · rw [if_neg c1] at h
      refine J_aload_n (z := 1) dX7_append_19 rfl rfl (q := 20) rfl ?_
      refine J_getI dX7_append_20 lRX7_19 ha0 rfl (q := 23) rfl ?_
      refine J_aload_n (z := 1) dX7_append_23 rfl rfl (q := 24) rfl ?_
      obtain ⟨r3, er3, h⟩ := bindS h
      refine J_getR dX7_append_24 lRX7_9 ha0 rfl (by decide) er3 (q := 27) rfl (fun fr3 => ?_)
      refine J_alen (t := 0) dX7_append_27 fr3 (by decide) rfl (q := 28) rfl ?_
      refine J_icmp_ge (tgt := 51) dX7_append_28 (by decide) (q := 31) rfl (fun c3 => ?_) (fun c3 => ?_)
      · rw [if_pos c3] at h
        refine J_pick [1, 2, 3] rfl ?_
        exact tX7_append_b51 ha0 h hc hr
      · rw [if_neg c3] at h
        refine J_aload_n (z := 1) dX7_append_31 rfl rfl (q := 32) rfl ?_
        refine J_getR dX7_append_32 lRX7_9 ha0 rfl (by decide) er3 (q := 35) rfl (fun _ => ?_)
        refine J_aload_n (z := 1) dX7_append_35 rfl rfl (q := 36) rfl ?_
        refine J_getI dX7_append_36 lRX7_19 ha0 rfl (q := 39) rfl ?_
        refine J_iload_n (z := 0) dX7_append_39 rfl rfl (q := 40) rfl ?_
        obtain ⟨g5, h⟩ := iteS h
        refine J_iast dX7_append_40 fr3 (ixB_ok g5) (q := 41) rfl ?_
        refine J_aload_n (z := 1) dX7_append_41 rfl rfl (q := 42) rfl ?_
        refine J_dup dX7_append_42 rfl (q := 43) rfl ?_
        refine J_getI dX7_append_43 lRX7_19 ha0 rfl (q := 46) rfl ?_
        refine J_iconst (x := 1) dX7_append_46 (by decide) (q := 47) rfl ?_
        refine J_iadd dX7_append_47  (q := 48) rfl ?_
        refine J_putI dX7_append_48 lRX7_19 (fun h => by cases h) ha0 rfl (q := 51) rfl ?_
        refine J_pick [1, 2, 3] rfl ?_
        exact tX7_append_b51 ha0 h hc hr

def fX7_append_w3 (a0 : Nat) (a1 : Int32) (a2 : Int32) (σ : Mm) : Option (Mm) :=
  wh (fun a : Int32 × Mm => fX7_append_l3 a0 a1 a.1 a.2) BIG (a2, σ)
set_option maxRecDepth 20000 in
set_option maxHeartbeats 2000000 in
theorem tX7_append_w3 {X : XS} {n : Nat} {σ : Mm} {F : Nat × Option Value × Mm} {a0 : Nat} {a1 : Int32} {a2 : Int32} (ha0 : RT n a0 107) {res : Mm} (h : fX7_append_w3 a0 a1 a2 σ = some res) (hr : ∀ (s : Mm), res = s → F = (n, none, s)) : J X mX7_append 1 0 0 F 3 [(0, .ref a0), (1, .int a1), (2, .int a2)] [] n σ := by
  unfold fX7_append_w3 at h
  refine wh_rule (P := fun a : Int32 × Mm => J X mX7_append 1 0 0 F 3 [(0, .ref a0), (1, .int a1), (2, .int a.1)] [] n a.2) (K := fun b => b = res) ?_ _ _ _ h rfl
  intro a
  refine ⟨fun a2 hb hP => ?_, fun b hb hK => ?_⟩
  · exact tX7_append_l3 ha0 hb (fun _ _ e => by cases e; exact hP) (fun _ e => by cases e)
  · subst hK
    exact tX7_append_l3 ha0 hb (fun _ _ e => by cases e) (fun v0 e => hr v0 (Sum.inr.inj e))

def fX7_append (a0 : Nat) (a1 : Int32) (σ : Mm) : Option (Mm) :=
  (fX7_append_w3 a0 a1 24 σ).bind (fun o6 => some o6)
set_option maxRecDepth 20000 in
set_option maxHeartbeats 2000000 in
theorem tX7_append {X : XS} {n : Nat} {σ : Mm} {a0 : Nat} {a1 : Int32} (ha0 : RT n a0 107) {res : Mm} (h : fX7_append a0 a1 σ = some res) : MT X yX7_append mX7_append 1 0 0 [.ref a0, .int a1] n σ (n, none, res) := by
  unfold fX7_append at h
  refine MT_of (by decide +kernel) rfl (fun h => by cases h) (Nat.le_of_ble_eq_true rfl) ?_
  show J X mX7_append 1 0 0 (n, none, res) 0 [(0, .ref a0), (1, .int a1)] [] n σ
  refine J_bipush (x := 24) dX7_append_0 (by decide) (q := 2) rfl ?_
  refine J_istore_n (lv' := [(2, .int 24), (0, .ref a0), (1, .int a1)]) dX7_append_2 rfl (by decide) rfl (q := 3) rfl ?_
  obtain ⟨o6, hlo6, h⟩ := bindS h
  refine J_pick [1, 2, 0] rfl ?_
  refine tX7_append_w3 ha0 hlo6 ?_
  · intro so6 qo6
    rw [qo6] at h
    try dsimp only [Sum.elim_inl, Sum.elim_inr] at h
    have h := Option.some.inj h
    subst h
    rfl

def fX8_pagesKnown_l4 (a0 : Nat) (a1 : Nat) (a2 : Int32) (a3 : Int32) (σ : Mm) : Option ((Int32 × Int32) ⊕ (Int32)) :=
  (gR σ a0 0).bind fun r1 => if (gI σ r1 5) ≤ a3 then some (Sum.inr a2) else (fX6_pagesKnownBy a1 a3 σ).bind fun vk3 => some (Sum.inl ((a2 ||| vk3), (a3 + 1)))
set_option maxRecDepth 20000 in
set_option maxHeartbeats 2000000 in
theorem tX8_pagesKnown_l4 {X : XS} {n : Nat} {σ : Mm} {F : Nat × Option Value × Mm} {a0 : Nat} {a1 : Nat} {a2 : Int32} {a3 : Int32} (ha0 : RT n a0 108) (ha1 : RT n a1 106) {res : (Int32 × Int32) ⊕ (Int32)} (h : fX8_pagesKnown_l4 a0 a1 a2 a3 σ = some res) (hc : ∀ (b2 : Int32) (b3 : Int32), res = .inl (b2, b3) → J X mX8_pagesKnown 4 0 0 F 4 [(0, .ref a0), (1, .ref a1), (2, .int b2), (3, .int b3)] [] n σ) (hr : ∀ (v : Int32), res = .inr v → F = (n, some (.int v), σ)) : J X mX8_pagesKnown 4 0 0 F 4 [(0, .ref a0), (1, .ref a1), (2, .int a2), (3, .int a3)] [] n σ := by
  unfold fX8_pagesKnown_l4 at h
  refine J_iload_n (z := 3) dX8_pagesKnown_4 rfl rfl (q := 5) rfl ?_
  refine J_aload_n (z := 0) dX8_pagesKnown_5 rfl rfl (q := 6) rfl ?_
  obtain ⟨r1, er1, h⟩ := bindS h
  refine J_getR dX8_pagesKnown_6 lRX8_15 ha0 rfl (by decide) er1 (q := 9) rfl (fun fr1 => ?_)
  refine J_getI dX8_pagesKnown_9 lRX8_19 fr1 rfl (q := 12) rfl ?_
  refine J_icmp_ge (tgt := 29) dX8_pagesKnown_12 (by decide) (q := 15) rfl (fun c1 => ?_) (fun c1 => ?_)
  · rw [if_pos c1] at h
    refine J_iload_n (z := 2) dX8_pagesKnown_29 rfl rfl (q := 30) rfl ?_
    have h := Option.some.inj h
    exact J_ireturn dX8_pagesKnown_30 rfl rfl (hr _ h.symm)
  · rw [if_neg c1] at h
    refine J_iload_n (z := 2) dX8_pagesKnown_15 rfl rfl (q := 16) rfl ?_
    refine J_aload_n (z := 1) dX8_pagesKnown_16 rfl rfl (q := 17) rfl ?_
    refine J_iload_n (z := 3) dX8_pagesKnown_17 rfl rfl (q := 18) rfl ?_
    obtain ⟨vk3, hk3, h⟩ := bindS h
    refine J_cVi (as := [.int a3]) dX8_pagesKnown_18 mRX8_141 ha1 (tX6_pagesKnownBy ha1 hk3) rfl (Nat.le_of_ble_eq_true rfl) (Nat.le_of_ble_eq_true rfl) (Nat.le_of_ble_eq_true rfl) (q := 21) rfl ?_
    intro bk3
    refine J_ior dX8_pagesKnown_21  (q := 22) rfl ?_
    refine J_istore_n (lv' := [(2, .int (a2 ||| vk3)), (0, .ref a0), (1, .ref a1), (3, .int a3)]) dX8_pagesKnown_22 rfl (by decide) rfl (q := 23) rfl ?_
    refine J_iinc (z := 3) (y := (a3 + 1)) (lv' := [(3, .int (a3 + 1)), (2, .int (a2 ||| vk3)), (0, .ref a0), (1, .ref a1)]) dX8_pagesKnown_23 rfl rfl (by decide) rfl (q := 26) rfl ?_
    refine J_goto (tgt := 4) dX8_pagesKnown_26 (by decide) ?_
    have h := Option.some.inj h
    refine J_pick [2, 3, 1, 0] rfl ?_
    exact hc _ _ h.symm

def fX8_pagesKnown_w4 (a0 : Nat) (a1 : Nat) (a2 : Int32) (a3 : Int32) (σ : Mm) : Option (Int32) :=
  wh (fun a : Int32 × Int32 => fX8_pagesKnown_l4 a0 a1 a.1 a.2 σ) BIG (a2, a3)
set_option maxRecDepth 20000 in
set_option maxHeartbeats 2000000 in
theorem tX8_pagesKnown_w4 {X : XS} {n : Nat} {σ : Mm} {F : Nat × Option Value × Mm} {a0 : Nat} {a1 : Nat} {a2 : Int32} {a3 : Int32} (ha0 : RT n a0 108) (ha1 : RT n a1 106) {res : Int32} (h : fX8_pagesKnown_w4 a0 a1 a2 a3 σ = some res) (hr : ∀ (v : Int32), res = v → F = (n, some (.int v), σ)) : J X mX8_pagesKnown 4 0 0 F 4 [(0, .ref a0), (1, .ref a1), (2, .int a2), (3, .int a3)] [] n σ := by
  unfold fX8_pagesKnown_w4 at h
  refine wh_rule (P := fun a : Int32 × Int32 => J X mX8_pagesKnown 4 0 0 F 4 [(0, .ref a0), (1, .ref a1), (2, .int a.1), (3, .int a.2)] [] n σ) (K := fun b => b = res) ?_ _ _ _ h rfl
  intro a
  refine ⟨fun a2 hb hP => ?_, fun b hb hK => ?_⟩
  · exact tX8_pagesKnown_l4 ha0 ha1 hb (fun _ _ e => by cases e; exact hP) (fun _ e => by cases e)
  · subst hK
    exact tX8_pagesKnown_l4 ha0 ha1 hb (fun _ _ e => by cases e) (fun v0 e => hr v0 (Sum.inr.inj e))

def fX8_pagesKnown (a0 : Nat) (a1 : Nat) (σ : Mm) : Option (Int32) :=
  (fX8_pagesKnown_w4 a0 a1 0 0 σ).bind (fun o4 => some o4)
set_option maxRecDepth 20000 in
set_option maxHeartbeats 2000000 in
theorem tX8_pagesKnown {X : XS} {n : Nat} {σ : Mm} {a0 : Nat} {a1 : Nat} (ha0 : RT n a0 108) (ha1 : RT n a1 106) {res : Int32} (h : fX8_pagesKnown a0 a1 σ = some res) : MT X yX8_pagesKnown mX8_pagesKnown 4 0 0 [.ref a0, .ref a1] n σ (n, some (.int res), σ) := by
  unfold fX8_pagesKnown at h
  refine MT_of (by decide +kernel) rfl (fun h => by cases h) (Nat.le_of_ble_eq_true rfl) ?_
  show J X mX8_pagesKnown 4 0 0 (n, some (.int res), σ) 0 [(0, .ref a0), (1, .ref a1)] [] n σ
  refine J_iconst (x := 0) dX8_pagesKnown_0 (by decide) (q := 1) rfl ?_
  refine J_istore_n (lv' := [(2, .int 0), (0, .ref a0), (1, .ref a1)]) dX8_pagesKnown_1 rfl (by decide) rfl (q := 2) rfl ?_
  refine J_iconst (x := 0) dX8_pagesKnown_2 (by decide) (q := 3) rfl ?_
  refine J_istore_n (lv' := [(3, .int 0), (2, .int 0), (0, .ref a0), (1, .ref a1)]) dX8_pagesKnown_3 rfl (by decide) rfl (q := 4) rfl ?_
  obtain ⟨o4, hlo4, h⟩ := bindS h
  refine J_pick [2, 3, 1, 0] rfl ?_
  refine tX8_pagesKnown_w4 ha0 ha1 hlo4 ?_
  · intro vo4 qo4
    rw [qo4] at h
    try dsimp only [Sum.elim_inl, Sum.elim_inr] at h
    have h := Option.some.inj h
    subst h
    rfl

def fX8_depthInAll_l4 (a0 : Nat) (a1 : Nat) (a2 : Int32) (a3 : Int32) (σ : Mm) : Option ((Int32 × Int32) ⊕ (Int32)) :=
  (gR σ a0 0).bind fun r1 => if (gI σ r1 4) ≤ a3 then some (Sum.inr a2) else (gR σ a1 0).bind fun r3 => if ixB a3 (ln r3) = true then some (Sum.inl ((a2 + (gI σ r3 (Int32.toNatClampNeg a3))), (a3 + 1))) else none
set_option maxRecDepth 20000 in
set_option maxHeartbeats 2000000 in
theorem tX8_depthInAll_l4 {X : XS} {n : Nat} {σ : Mm} {F : Nat × Option Value × Mm} {a0 : Nat} {a1 : Nat} {a2 : Int32} {a3 : Int32} (ha0 : RT n a0 108) (ha1 : RT n a1 106) {res : (Int32 × Int32) ⊕ (Int32)} (h : fX8_depthInAll_l4 a0 a1 a2 a3 σ = some res) (hc : ∀ (b2 : Int32) (b3 : Int32), res = .inl (b2, b3) → J X mX8_depthInAll 1 0 0 F 4 [(0, .ref a0), (1, .ref a1), (2, .int b2), (3, .int b3)] [] n σ) (hr : ∀ (v : Int32), res = .inr v → F = (n, some (.int v), σ)) : J X mX8_depthInAll 1 0 0 F 4 [(0, .ref a0), (1, .ref a1), (2, .int a2), (3, .int a3)] [] n σ := by
  unfold fX8_depthInAll_l4 at h
  refine J_iload_n (z := 3) dX8_depthInAll_4 rfl rfl (q := 5) rfl ?_
  refine J_aload_n (z := 0) dX8_depthInAll_5 rfl rfl (q := 6) rfl ?_
  obtain ⟨r1, er1, h⟩ := bindS h
  refine J_getR dX8_depthInAll_6 lRX8_15 ha0 rfl (by decide) er1 (q := 9) rfl (fun fr1 => ?_)
  refine J_getI dX8_depthInAll_9 lRX8_76 fr1 rfl (q := 12) rfl ?_
  refine J_icmp_ge (tgt := 30) dX8_depthInAll_12 (by decide) (q := 15) rfl (fun c1 => ?_) (fun c1 => ?_)
  · rw [if_pos c1] at h
    refine J_iload_n (z := 2) dX8_depthInAll_30 rfl rfl (q := 31) rfl ?_
    have h := Option.some.inj h
    exact J_ireturn dX8_depthInAll_31 rfl rfl (hr _ h.symm)
  · rw [if_neg c1] at h
    refine J_iload_n (z := 2) dX8_depthInAll_15 rfl rfl (q := 16) rfl ?_
    refine J_aload_n (z := 1) dX8_depthInAll_16 rfl rfl (q := 17) rfl ?_
    obtain ⟨r3, er3, h⟩ := bindS h
    refine J_getR dX8_depthInAll_17 lRX8_52 ha1 rfl (by decide) er3 (q := 20) rfl (fun fr3 => ?_)
    refine J_iload_n (z := 3) dX8_depthInAll_20 rfl rfl (q := 21) rfl ?_
    obtain ⟨g4, h⟩ := iteS h
    refine J_iald dX8_depthInAll_21 fr3 (ixB_ok g4) (q := 22) rfl ?_
    refine J_iadd dX8_depthInAll_22  (q := 23) rfl ?_
    refine J_istore_n (lv' := [(2, .int (a2 + (gI σ r3 (Int32.toNatClampNeg a3)))), (0, .ref a0), (1, .ref a1), (3, .int a3)]) dX8_depthInAll_23 rfl (by decide) rfl (q := 24) rfl ?_
    refine J_iinc (z := 3) (y := (a3 + 1)) (lv' := [(3, .int (a3 + 1)), (2, .int (a2 + (gI σ r3 (Int32.toNatClampNeg a3)))), (0, .ref a0), (1, .ref a1)]) dX8_depthInAll_24 rfl rfl (by decide) rfl (q := 27) rfl ?_
    refine J_goto (tgt := 4) dX8_depthInAll_27 (by decide) ?_
    have h := Option.some.inj h
    refine J_pick [2, 3, 1, 0] rfl ?_
    exact hc _ _ h.symm

def fX8_depthInAll_w4 (a0 : Nat) (a1 : Nat) (a2 : Int32) (a3 : Int32) (σ : Mm) : Option (Int32) :=
  wh (fun a : Int32 × Int32 => fX8_depthInAll_l4 a0 a1 a.1 a.2 σ) BIG (a2, a3)
set_option maxRecDepth 20000 in
set_option maxHeartbeats 2000000 in
theorem tX8_depthInAll_w4 {X : XS} {n : Nat} {σ : Mm} {F : Nat × Option Value × Mm} {a0 : Nat} {a1 : Nat} {a2 : Int32} {a3 : Int32} (ha0 : RT n a0 108) (ha1 : RT n a1 106) {res : Int32} (h : fX8_depthInAll_w4 a0 a1 a2 a3 σ = some res) (hr : ∀ (v : Int32), res = v → F = (n, some (.int v), σ)) : J X mX8_depthInAll 1 0 0 F 4 [(0, .ref a0), (1, .ref a1), (2, .int a2), (3, .int a3)] [] n σ := by
  unfold fX8_depthInAll_w4 at h
  refine wh_rule (P := fun a : Int32 × Int32 => J X mX8_depthInAll 1 0 0 F 4 [(0, .ref a0), (1, .ref a1), (2, .int a.1), (3, .int a.2)] [] n σ) (K := fun b => b = res) ?_ _ _ _ h rfl
  intro a
  refine ⟨fun a2 hb hP => ?_, fun b hb hK => ?_⟩
  · exact tX8_depthInAll_l4 ha0 ha1 hb (fun _ _ e => by cases e; exact hP) (fun _ e => by cases e)
  · subst hK
    exact tX8_depthInAll_l4 ha0 ha1 hb (fun _ _ e => by cases e) (fun v0 e => hr v0 (Sum.inr.inj e))

def fX8_depthInAll (a0 : Nat) (a1 : Nat) (σ : Mm) : Option (Int32) :=
  (fX8_depthInAll_w4 a0 a1 0 0 σ).bind (fun o5 => some o5)
set_option maxRecDepth 20000 in
set_option maxHeartbeats 2000000 in
theorem tX8_depthInAll {X : XS} {n : Nat} {σ : Mm} {a0 : Nat} {a1 : Nat} (ha0 : RT n a0 108) (ha1 : RT n a1 106) {res : Int32} (h : fX8_depthInAll a0 a1 σ = some res) : MT X yX8_depthInAll mX8_depthInAll 1 0 0 [.ref a0, .ref a1] n σ (n, some (.int res), σ) := by
  unfold fX8_depthInAll at h
  refine MT_of (by decide +kernel) rfl (fun h => by cases h) (Nat.le_of_ble_eq_true rfl) ?_
  show J X mX8_depthInAll 1 0 0 (n, some (.int res), σ) 0 [(0, .ref a0), (1, .ref a1)] [] n σ
  refine J_iconst (x := 0) dX8_depthInAll_0 (by decide) (q := 1) rfl ?_
  refine J_istore_n (lv' := [(2, .int 0), (0, .ref a0), (1, .ref a1)]) dX8_depthInAll_1 rfl (by decide) rfl (q := 2) rfl ?_
  refine J_iconst (x := 0) dX8_depthInAll_2 (by decide) (q := 3) rfl ?_
  refine J_istore_n (lv' := [(3, .int 0), (2, .int 0), (0, .ref a0), (1, .ref a1)]) dX8_depthInAll_3 rfl (by decide) rfl (q := 4) rfl ?_
  obtain ⟨o5, hlo5, h⟩ := bindS h
  refine J_pick [2, 3, 1, 0] rfl ?_
  refine tX8_depthInAll_w4 ha0 ha1 hlo5 ?_
  · intro vo5 qo5
    rw [qo5] at h
    try dsimp only [Sum.elim_inl, Sum.elim_inr] at h
    have h := Option.some.inj h
    subst h
    rfl

def fX9_signsIn_b22 (a0 : Int32) (a1 : Int32) (a2 : Int32) (σ : Mm) : Option ((Int32 × Int32) ⊕ (Int32)) :=
  some (Sum.inl (a1, (a2 + (-8))))
set_option maxRecDepth 20000 in
set_option maxHeartbeats 2000000 in
theorem tX9_signsIn_b22 {X : XS} {n : Nat} {σ : Mm} {F : Nat × Option Value × Mm} {a0 : Int32} {a1 : Int32} {a2 : Int32} {res : (Int32 × Int32) ⊕ (Int32)} (h : fX9_signsIn_b22 a0 a1 a2 σ = some res) (hc : ∀ (b1 : Int32) (b2 : Int32), res = .inl (b1, b2) → J X mX9_signsIn 1 0 0 F 5 [(0, .int a0), (1, .int b1), (2, .int b2)] [] n σ) (hr : ∀ (v : Int32), res = .inr v → F = (n, some (.int v), σ)) : J X mX9_signsIn 1 0 0 F 22 [(0, .int a0), (1, .int a1), (2, .int a2)] [] n σ := by
  unfold fX9_signsIn_b22 at h
  refine J_iinc (z := 2) (y := (a2 + (-8))) (lv' := [(2, .int (a2 + (-8))), (0, .int a0), (1, .int a1)]) dX9_signsIn_22 rfl rfl (by decide) rfl (q := 25) rfl ?_
  refine J_goto (tgt := 5) dX9_signsIn_25 (by decide) ?_
  have h := Option.some.inj h
  refine J_pick [1, 2, 0] rfl ?_
  exact hc _ _ h.symm

def fX9_signsIn_l5 (a0 : Int32) (a1 : Int32) (a2 : Int32) (σ : Mm) : Option ((Int32 × Int32) ⊕ (Int32)) :=
  if a2 < 0 then some (Sum.inr a1) else if ((ushrI a0 a2) &&& 255) = 0 then fX9_signsIn_b22 a0 a1 a2 σ else fX9_signsIn_b22 a0 (a1 + 1) a2 σ
set_option maxRecDepth 20000 in
set_option maxHeartbeats 2000000 in
theorem tX9_signsIn_l5 {X : XS} {n : Nat} {σ : Mm} {F : Nat × Option Value × Mm} {a0 : Int32} {a1 : Int32} {a2 : Int32} {res : (Int32 × Int32) ⊕ (Int32)} (h : fX9_signsIn_l5 a0 a1 a2 σ = some res) (hc : ∀ (b1 : Int32) (b2 : Int32), res = .inl (b1, b2) → J X mX9_signsIn 1 0 0 F 5 [(0, .int a0), (1, .int b1), (2, .int b2)] [] n σ) (hr : ∀ (v : Int32), res = .inr v → F = (n, some (.int v), σ)) : J X mX9_signsIn 1 0 0 F 5 [(0, .int a0), (1, .int a1), (2, .int a2)] [] n σ := by
  unfold fX9_signsIn_l5 at h
  refine J_iload_n (z := 2) dX9_signsIn_5 rfl rfl (q := 6) rfl ?_
  refine J_if_lt (tgt := 28) dX9_signsIn_6 (by decide) (q := 9) rfl (fun c0 => ?_) (fun c0 => ?_)
  · rw [if_pos c0] at h
    refine J_iload_n (z := 1) dX9_signsIn_28 rfl rfl (q := 29) rfl ?_
    have h := Option.some.inj h
    exact J_ireturn dX9_signsIn_29 rfl rfl (hr _ h.symm)
  · rw [if_neg c0] at h
    refine J_iload_n (z := 0) dX9_signsIn_9 rfl rfl (q := 10) rfl ?_
    refine J_iload_n (z := 2) dX9_signsIn_10 rfl rfl (q := 11) rfl ?_
    refine J_iushr dX9_signsIn_11  (q := 12) rfl ?_
    refine J_sipush (x := 255) dX9_signsIn_12 (by decide) (q := 15) rfl ?_
    refine J_iand dX9_signsIn_15  (q := 16) rfl ?_
    refine J_if_eq (tgt := 22) dX9_signsIn_16 (by decide) (q := 19) rfl (fun c1 => ?_) (fun c1 => ?_)
    · rw [if_pos c1] at h
      refine J_pick [0, 1, 2] rfl ?_
      exact tX9_signsIn_b22  h hc hr
    · rw [if_neg c1] at h
      refine J_iinc (z := 1) (y := (a1 + 1)) (lv' := [(1, .int (a1 + 1)), (0, .int a0), (2, .int a2)]) dX9_signsIn_19 rfl rfl (by decide) rfl (q := 22) rfl ?_
      refine J_pick [1, 0, 2] rfl ?_
      exact tX9_signsIn_b22  h hc hr

def fX9_signsIn_w5 (a0 : Int32) (a1 : Int32) (a2 : Int32) (σ : Mm) : Option (Int32) :=
  wh (fun a : Int32 × Int32 => fX9_signsIn_l5 a0 a.1 a.2 σ) BIG (a1, a2)
set_option maxRecDepth 20000 in
set_option maxHeartbeats 2000000 in
theorem tX9_signsIn_w5 {X : XS} {n : Nat} {σ : Mm} {F : Nat × Option Value × Mm} {a0 : Int32} {a1 : Int32} {a2 : Int32} {res : Int32} (h : fX9_signsIn_w5 a0 a1 a2 σ = some res) (hr : ∀ (v : Int32), res = v → F = (n, some (.int v), σ)) : J X mX9_signsIn 1 0 0 F 5 [(0, .int a0), (1, .int a1), (2, .int a2)] [] n σ := by
  unfold fX9_signsIn_w5 at h
  refine wh_rule (P := fun a : Int32 × Int32 => J X mX9_signsIn 1 0 0 F 5 [(0, .int a0), (1, .int a.1), (2, .int a.2)] [] n σ) (K := fun b => b = res) ?_ _ _ _ h rfl
  intro a
  refine ⟨fun a2 hb hP => ?_, fun b hb hK => ?_⟩
  · exact tX9_signsIn_l5  hb (fun _ _ e => by cases e; exact hP) (fun _ e => by cases e)
  · subst hK
    exact tX9_signsIn_l5  hb (fun _ _ e => by cases e) (fun v0 e => hr v0 (Sum.inr.inj e))

def fX9_signsIn (a0 : Int32) (σ : Mm) : Option (Int32) :=
  (fX9_signsIn_w5 a0 0 24 σ).bind (fun o3 => some o3)
set_option maxRecDepth 20000 in
set_option maxHeartbeats 2000000 in
theorem tX9_signsIn {X : XS} {n : Nat} {σ : Mm} {a0 : Int32} {res : Int32} (h : fX9_signsIn a0 σ = some res) : MT X yX9_signsIn mX9_signsIn 1 0 0 [.int a0] n σ (n, some (.int res), σ) := by
  unfold fX9_signsIn at h
  refine MT_of (by decide +kernel) rfl (fun h => by cases h) (Nat.le_of_ble_eq_true rfl) ?_
  show J X mX9_signsIn 1 0 0 (n, some (.int res), σ) 0 [(0, .int a0)] [] n σ
  refine J_iconst (x := 0) dX9_signsIn_0 (by decide) (q := 1) rfl ?_
  refine J_istore_n (lv' := [(1, .int 0), (0, .int a0)]) dX9_signsIn_1 rfl (by decide) rfl (q := 2) rfl ?_
  refine J_bipush (x := 24) dX9_signsIn_2 (by decide) (q := 4) rfl ?_
  refine J_istore_n (lv' := [(2, .int 24), (1, .int 0), (0, .int a0)]) dX9_signsIn_4 rfl (by decide) rfl (q := 5) rfl ?_
  obtain ⟨o3, hlo3, h⟩ := bindS h
  refine J_pick [2, 1, 0] rfl ?_
  refine tX9_signsIn_w5  hlo3 ?_
  · intro vo3 qo3
    rw [qo3] at h
    try dsimp only [Sum.elim_inl, Sum.elim_inr] at h
    have h := Option.some.inj h
    subst h
    rfl

def fX9_feed (a0 : Nat) (a1 : Int32) (a2 : Int32) (a3 : Int32) (a4 : Int32) (a5 : Int32) (σ : Mm) : Option (Int32 × Mm) :=
  (fX9_signsIn a1 σ).bind fun vk1 => (fX9_signsIn a2 σ).bind fun vk2 => (fX9_signsIn a3 σ).bind fun vk3 => (fX9_signsIn a4 σ).bind fun vk4 => (fX9_signsIn a5 σ).bind fun vk5 => (gR σ a0 0).bind fun r6 => if ((gI σ r6 1) + ((((vk1 + vk2) + vk3) + vk4) + vk5)) ≤ 240 then (fX7_append r6 a1 σ).bind fun sk8 => (gR sk8 a0 0).bind fun r9 => (fX7_append r9 a2 sk8).bind fun sk10 => (gR sk10 a0 0).bind fun r11 => (fX7_append r11 a3 sk10).bind fun sk12 => (gR sk12 a0 0).bind fun r13 => (fX7_append r13 a4 sk12).bind fun sk14 => (gR sk14 a0 0).bind fun r15 => (fX7_append r15 a5 sk14).bind fun sk16 => (gR sk16 a0 0).bind fun r17 => some ((gI sk16 r17 1), sk16) else some ((-1), σ)
set_option maxRecDepth 20000 in
set_option maxHeartbeats 2000000 in
theorem tX9_feed {X : XS} {n : Nat} {σ : Mm} {a0 : Nat} {a1 : Int32} {a2 : Int32} {a3 : Int32} {a4 : Int32} {a5 : Int32} (ha0 : RT n a0 109) {res : Int32 × Mm} (h : fX9_feed a0 a1 a2 a3 a4 a5 σ = some res) : MT X yX9_feed mX9_feed 2 0 0 [.ref a0, .int a1, .int a2, .int a3, .int a4, .int a5] n σ (n, some (.int res.1), res.2) := by
  unfold fX9_feed at h
  refine MT_of (by decide +kernel) rfl (fun h => by cases h) (Nat.le_of_ble_eq_true rfl) ?_
  show J X mX9_feed 2 0 0 (n, some (.int res.1), res.2) 0 [(0, .ref a0), (1, .int a1), (2, .int a2), (3, .int a3), (4, .int a4), (5, .int a5)] [] n σ
  refine J_iload_n (z := 1) dX9_feed_0 rfl rfl (q := 1) rfl ?_
  obtain ⟨vk1, hk1, h⟩ := bindS h
  refine J_cSi (as := [.int a1]) dX9_feed_1 mRX9_94 (tX9_signsIn  hk1) rfl (Nat.le_of_ble_eq_true rfl) (Nat.le_of_ble_eq_true rfl) (Nat.le_of_ble_eq_true rfl) (q := 4) rfl ?_
  intro bk1
  refine J_iload_n (z := 2) dX9_feed_4 rfl rfl (q := 5) rfl ?_
  obtain ⟨vk2, hk2, h⟩ := bindS h
  refine J_cSi (as := [.int a2]) dX9_feed_5 mRX9_94 (tX9_signsIn  hk2) rfl (Nat.le_of_ble_eq_true rfl) (Nat.le_of_ble_eq_true rfl) (Nat.le_of_ble_eq_true rfl) (q := 8) rfl ?_
  intro bk2
  refine J_iadd dX9_feed_8  (q := 9) rfl ?_
  refine J_iload_n (z := 3) dX9_feed_9 rfl rfl (q := 10) rfl ?_
  obtain ⟨vk3, hk3, h⟩ := bindS h
  refine J_cSi (as := [.int a3]) dX9_feed_10 mRX9_94 (tX9_signsIn  hk3) rfl (Nat.le_of_ble_eq_true rfl) (Nat.le_of_ble_eq_true rfl) (Nat.le_of_ble_eq_true rfl) (q := 13) rfl ?_
  intro bk3
  refine J_iadd dX9_feed_13  (q := 14) rfl ?_
  refine J_iload (z := 4) dX9_feed_14 rfl (q := 16) rfl ?_
  obtain ⟨vk4, hk4, h⟩ := bindS h
  refine J_cSi (as := [.int a4]) dX9_feed_16 mRX9_94 (tX9_signsIn  hk4) rfl (Nat.le_of_ble_eq_true rfl) (Nat.le_of_ble_eq_true rfl) (Nat.le_of_ble_eq_true rfl) (q := 19) rfl ?_
  intro bk4
  refine J_iadd dX9_feed_19  (q := 20) rfl ?_
  refine J_iload (z := 5) dX9_feed_20 rfl (q := 22) rfl ?_
  obtain ⟨vk5, hk5, h⟩ := bindS h
  refine J_cSi (as := [.int a5]) dX9_feed_22 mRX9_94 (tX9_signsIn  hk5) rfl (Nat.le_of_ble_eq_true rfl) (Nat.le_of_ble_eq_true rfl) (Nat.le_of_ble_eq_true rfl) (q := 25) rfl ?_
  intro bk5
  refine J_iadd dX9_feed_25  (q := 26) rfl ?_
  refine J_istore (lv' := [(6, .int ((((vk1 + vk2) + vk3) + vk4) + vk5)), (0, .ref a0), (1, .int a1), (2, .int a2), (3, .int a3), (4, .int a4), (5, .int a5)]) dX9_feed_26 (by decide) rfl (q := 28) rfl ?_
  refine J_aload_n (z := 1) dX9_feed_28 rfl rfl (q := 29) rfl ?_
  obtain ⟨r6, er6, h⟩ := bindS h
  refine J_getR dX9_feed_29 lRX9_10 ha0 rfl (by decide) er6 (q := 32) rfl (fun fr6 => ?_)
  refine J_getI dX9_feed_32 lRX9_98 fr6 rfl (q := 35) rfl ?_
  refine J_iload (z := 0) dX9_feed_35 rfl (q := 37) rfl ?_
  refine J_iadd dX9_feed_37  (q := 38) rfl ?_
  refine J_sipush (x := 240) dX9_feed_38 (by decide) (q := 41) rfl ?_
  refine J_icmp_le (tgt := 46) dX9_feed_41 (by decide) (q := 44) rfl (fun c6 => ?_) (fun c6 => ?_)
  · rw [if_pos c6] at h
    refine J_aload_n (z := 1) dX9_feed_46 rfl rfl (q := 47) rfl ?_
    refine J_getR dX9_feed_47 lRX9_10 ha0 rfl (by decide) er6 (q := 50) rfl (fun _ => ?_)
    refine J_iload_n (z := 2) dX9_feed_50 rfl rfl (q := 51) rfl ?_
    obtain ⟨sk8, hk8, h⟩ := bindS h
    refine J_cVv (as := [.int a1]) dX9_feed_51 mRX9_101 fr6 (tX7_append fr6 hk8) rfl (Nat.le_of_ble_eq_true rfl) (Nat.le_of_ble_eq_true rfl) (Nat.le_of_ble_eq_true rfl) (q := 54) rfl ?_
    refine J_aload_n (z := 1) dX9_feed_54 rfl rfl (q := 55) rfl ?_
    obtain ⟨r9, er9, h⟩ := bindS h
    refine J_getR dX9_feed_55 lRX9_10 ha0 rfl (by decide) er9 (q := 58) rfl (fun fr9 => ?_)
    refine J_iload_n (z := 3) dX9_feed_58 rfl rfl (q := 59) rfl ?_
    obtain ⟨sk10, hk10, h⟩ := bindS h
    refine J_cVv (as := [.int a2]) dX9_feed_59 mRX9_101 fr9 (tX7_append fr9 hk10) rfl (Nat.le_of_ble_eq_true rfl) (Nat.le_of_ble_eq_true rfl) (Nat.le_of_ble_eq_true rfl) (q := 62) rfl ?_
    refine J_aload_n (z := 1) dX9_feed_62 rfl rfl (q := 63) rfl ?_
    obtain ⟨r11, er11, h⟩ := bindS h
    refine J_getR dX9_feed_63 lRX9_10 ha0 rfl (by decide) er11 (q := 66) rfl (fun fr11 => ?_)
    refine J_iload_n (z := 4) dX9_feed_66 rfl rfl (q := 67) rfl ?_
    obtain ⟨sk12, hk12, h⟩ := bindS h
    refine J_cVv (as := [.int a3]) dX9_feed_67 mRX9_101 fr11 (tX7_append fr11 hk12) rfl (Nat.le_of_ble_eq_true rfl) (Nat.le_of_ble_eq_true rfl) (Nat.le_of_ble_eq_true rfl) (q := 70) rfl ?_
    refine J_aload_n (z := 1) dX9_feed_70 rfl rfl (q := 71) rfl ?_
    obtain ⟨r13, er13, h⟩ := bindS h
    refine J_getR dX9_feed_71 lRX9_10 ha0 rfl (by decide) er13 (q := 74) rfl (fun fr13 => ?_)
    refine J_iload (z := 5) dX9_feed_74 rfl (q := 76) rfl ?_
    obtain ⟨sk14, hk14, h⟩ := bindS h
    refine J_cVv (as := [.int a4]) dX9_feed_76 mRX9_101 fr13 (tX7_append fr13 hk14) rfl (Nat.le_of_ble_eq_true rfl) (Nat.le_of_ble_eq_true rfl) (Nat.le_of_ble_eq_true rfl) (q := 79) rfl ?_
    refine J_aload_n (z := 1) dX9_feed_79 rfl rfl (q := 80) rfl ?_
    obtain ⟨r15, er15, h⟩ := bindS h
    refine J_getR dX9_feed_80 lRX9_10 ha0 rfl (by decide) er15 (q := 83) rfl (fun fr15 => ?_)
    refine J_iload (z := 6) dX9_feed_83 rfl (q := 85) rfl ?_
    obtain ⟨sk16, hk16, h⟩ := bindS h
    refine J_cVv (as := [.int a5]) dX9_feed_85 mRX9_101 fr15 (tX7_append fr15 hk16) rfl (Nat.le_of_ble_eq_true rfl) (Nat.le_of_ble_eq_true rfl) (Nat.le_of_ble_eq_true rfl) (q := 88) rfl ?_
    refine J_aload_n (z := 1) dX9_feed_88 rfl rfl (q := 89) rfl ?_
    obtain ⟨r17, er17, h⟩ := bindS h
    refine J_getR dX9_feed_89 lRX9_10 ha0 rfl (by decide) er17 (q := 92) rfl (fun fr17 => ?_)
    refine J_getI dX9_feed_92 lRX9_98 fr17 rfl (q := 95) rfl ?_
    have h := Option.some.inj h
    subst h
    exact J_ireturn dX9_feed_95 rfl rfl rfl
  · rw [if_neg c6] at h
    refine J_iconst (x := (-1)) dX9_feed_44 (by decide) (q := 45) rfl ?_
    have h := Option.some.inj h
    subst h
    exact J_ireturn dX9_feed_45 rfl rfl rfl

def fX9_end (a0 : Nat) (a1 : Int32) (σ : Mm) : Option (Int32 × Mm) :=
  if a1 < 0 then some (0, σ) else (gR σ a0 0).bind fun r2 => if a1 ≤ (gI σ r2 1) then some (1, (sI σ r2 1 a1)) else some (0, σ)
set_option maxRecDepth 20000 in
set_option maxHeartbeats 2000000 in
theorem tX9_end {X : XS} {n : Nat} {σ : Mm} {a0 : Nat} {a1 : Int32} (ha0 : RT n a0 109) {res : Int32 × Mm} (h : fX9_end a0 a1 σ = some res) : MT X yX9_end mX9_end 1 0 0 [.ref a0, .int a1] n σ (n, some (.int res.1), res.2) := by
  unfold fX9_end at h
  refine MT_of (by decide +kernel) rfl (fun h => by cases h) (Nat.le_of_ble_eq_true rfl) ?_
  show J X mX9_end 1 0 0 (n, some (.int res.1), res.2) 0 [(0, .ref a0), (1, .int a1)] [] n σ
  refine J_iload_n (z := 1) dX9_end_0 rfl rfl (q := 1) rfl ?_
  refine J_if_lt (tgt := 15) dX9_end_1 (by decide) (q := 4) rfl (fun c0 => ?_) (fun c0 => ?_)
  · rw [if_pos c0] at h
    refine J_iconst (x := 0) dX9_end_15 (by decide) (q := 16) rfl ?_
    have h := Option.some.inj h
    subst h
    exact J_ireturn dX9_end_16 rfl rfl rfl
  · rw [if_neg c0] at h
    refine J_iload_n (z := 1) dX9_end_4 rfl rfl (q := 5) rfl ?_
    refine J_aload_n (z := 0) dX9_end_5 rfl rfl (q := 6) rfl ?_
    obtain ⟨r2, er2, h⟩ := bindS h
    refine J_getR dX9_end_6 lRX9_10 ha0 rfl (by decide) er2 (q := 9) rfl (fun fr2 => ?_)
    refine J_getI dX9_end_9 lRX9_98 fr2 rfl (q := 12) rfl ?_
    refine J_icmp_le (tgt := 17) dX9_end_12 (by decide) (q := 15) rfl (fun c2 => ?_) (fun c2 => ?_)
    · rw [if_pos c2] at h
      refine J_aload_n (z := 0) dX9_end_17 rfl rfl (q := 18) rfl ?_
      refine J_getR dX9_end_18 lRX9_10 ha0 rfl (by decide) er2 (q := 21) rfl (fun _ => ?_)
      refine J_iload_n (z := 1) dX9_end_21 rfl rfl (q := 22) rfl ?_
      refine J_putI dX9_end_22 lRX9_98 (fun h => by cases h) fr2 rfl (q := 25) rfl ?_
      refine J_iconst (x := 1) dX9_end_25 (by decide) (q := 26) rfl ?_
      have h := Option.some.inj h
      subst h
      exact J_ireturn dX9_end_26 rfl rfl rfl
    · rw [if_neg c2] at h
      refine J_iconst (x := 0) dX9_end_15 (by decide) (q := 16) rfl ?_
      have h := Option.some.inj h
      subst h
      exact J_ireturn dX9_end_16 rfl rfl rfl

def fX9_isWhole (a0 : Nat) (a1 : Int32) (σ : Mm) : Option (Int32 × Mm) :=
  if a1 = 0 then (gR σ a0 2).bind fun r1 => bnd2 (fX1_parse r1 σ) fun vk2 sk2 => some (vk2, sk2) else if a1 = 1 then (gR σ a0 5).bind fun r3 => if (nI (ln r3)) ≤ (gI σ a0 14) then some (0, σ) else if ixB (gI σ a0 14) (ln r3) = true then (gR σ r3 (Int32.toNatClampNeg (gI σ a0 14))).bind fun r6 => bnd2 (fX3_parse r6 σ) fun vk7 sk7 => if vk7 = 0 then some (0, sk7) else some (1, sk7) else none else if a1 = 2 then (gR σ a0 6).bind fun r9 => if (nI (ln r9)) ≤ (gI σ a0 15) then some (0, σ) else if ixB (gI σ a0 15) (ln r9) = true then (gR σ r9 (Int32.toNatClampNeg (gI σ a0 15))).bind fun r12 => bnd2 (fX5_parse r12 σ) fun vk13 sk13 => if vk13 = 0 then some (0, sk13) else some (1, sk13) else none else some (0, σ)
set_option maxRecDepth 20000 in
set_option maxHeartbeats 2000000 in
theorem tX9_isWhole {X : XS} {n : Nat} {σ : Mm} {a0 : Nat} {a1 : Int32} (ha0 : RT n a0 109) {res : Int32 × Mm} (h : fX9_isWhole a0 a1 σ = some res) : MT X yX9_isWhole mX9_isWhole 112 0 0 [.ref a0, .int a1] n σ (n, some (.int res.1), res.2) := by
  unfold fX9_isWhole at h
  refine MT_of (by decide +kernel) rfl (fun h => by cases h) (Nat.le_of_ble_eq_true rfl) ?_
  show J X mX9_isWhole 112 0 0 (n, some (.int res.1), res.2) 0 [(0, .ref a0), (1, .int a1)] [] n σ
  refine J_iload_n (z := 1) dX9_isWhole_0 rfl rfl (q := 1) rfl ?_
  refine J_table dX9_isWhole_1 [(0, 28), (1, 36), (2, 69)] 102 (by decide) (by decide) (by decide) ?_ ?_
  · refine List.forall_mem_cons.mpr ⟨fun hx => ?_, List.forall_mem_cons.mpr ⟨fun hx => ?_, List.forall_mem_cons.mpr ⟨fun hx => ?_, fun _ hh => absurd hh List.not_mem_nil⟩⟩⟩
    · replace hx : a1 = 0 := hx
      rw [if_pos hx] at h
      refine J_aload_n (z := 0) dX9_isWhole_28 rfl rfl (q := 29) rfl ?_
      obtain ⟨r1, er1, h⟩ := bindS h
      refine J_getR dX9_isWhole_29 lRX9_25 ha0 rfl (by decide) er1 (q := 32) rfl (fun fr1 => ?_)
      obtain ⟨vk2, sk2, hk2, h⟩ := bnd2S h
      refine J_cVi (as := []) dX9_isWhole_32 mRX9_128 fr1 (tX1_parse fr1 hk2) rfl (Nat.le_of_ble_eq_true rfl) (Nat.le_of_ble_eq_true rfl) (Nat.le_of_ble_eq_true rfl) (q := 35) rfl ?_
      intro bk2
      have h := Option.some.inj h
      subst h
      exact J_ireturn dX9_isWhole_35 rfl bk2 rfl
    · replace hx : a1 = 1 := hx
      rw [if_neg (by rw [hx]; decide), if_pos hx] at h
      refine J_aload_n (z := 0) dX9_isWhole_36 rfl rfl (q := 37) rfl ?_
      refine J_getI dX9_isWhole_37 lRX9_116 ha0 rfl (q := 40) rfl ?_
      refine J_aload_n (z := 0) dX9_isWhole_40 rfl rfl (q := 41) rfl ?_
      obtain ⟨r3, er3, h⟩ := bindS h
      refine J_getR dX9_isWhole_41 lRX9_48 ha0 rfl (by decide) er3 (q := 44) rfl (fun fr3 => ?_)
      refine J_alen (t := 3) dX9_isWhole_44 fr3 (by decide) rfl (q := 45) rfl ?_
      refine J_icmp_ge (tgt := 67) dX9_isWhole_45 (by decide) (q := 48) rfl (fun c3 => ?_) (fun c3 => ?_)
      · rw [if_pos c3] at h
        refine J_iconst (x := 0) dX9_isWhole_67 (by decide) (q := 68) rfl ?_
        have h := Option.some.inj h
        subst h
        exact J_ireturn dX9_isWhole_68 rfl rfl rfl
      · rw [if_neg c3] at h
        refine J_aload_n (z := 0) dX9_isWhole_48 rfl rfl (q := 49) rfl ?_
        refine J_getR dX9_isWhole_49 lRX9_48 ha0 rfl (by decide) er3 (q := 52) rfl (fun _ => ?_)
        refine J_aload_n (z := 0) dX9_isWhole_52 rfl rfl (q := 53) rfl ?_
        refine J_getI dX9_isWhole_53 lRX9_116 ha0 rfl (q := 56) rfl ?_
        obtain ⟨g5, h⟩ := iteS h
        obtain ⟨r6, er6, h⟩ := bindS h
        refine J_aald (t := 3) dX9_isWhole_56 fr3 (by decide) (ixB_ok g5) er6 (q := 57) rfl (fun fr6 => ?_)
        obtain ⟨vk7, sk7, hk7, h⟩ := bnd2S h
        refine J_cVi (as := []) dX9_isWhole_57 mRX9_132 fr6 (tX3_parse fr6 hk7) rfl (Nat.le_of_ble_eq_true rfl) (Nat.le_of_ble_eq_true rfl) (Nat.le_of_ble_eq_true rfl) (q := 60) rfl ?_
        intro bk7
        refine J_if_eq (tgt := 67) dX9_isWhole_60 (by decide) (q := 63) rfl (fun c7 => ?_) (fun c7 => ?_)
        · rw [if_pos c7] at h
          refine J_iconst (x := 0) dX9_isWhole_67 (by decide) (q := 68) rfl ?_
          have h := Option.some.inj h
          subst h
          exact J_ireturn dX9_isWhole_68 rfl rfl rfl
        · rw [if_neg c7] at h
          refine J_iconst (x := 1) dX9_isWhole_63 (by decide) (q := 64) rfl ?_
          refine J_goto (tgt := 68) dX9_isWhole_64 (by decide) ?_
          have h := Option.some.inj h
          subst h
          exact J_ireturn dX9_isWhole_68 rfl rfl rfl
    · replace hx : a1 = 2 := hx
      rw [if_neg (by rw [hx]; decide), if_neg (by rw [hx]; decide), if_pos hx] at h
      refine J_aload_n (z := 0) dX9_isWhole_69 rfl rfl (q := 70) rfl ?_
      refine J_getI dX9_isWhole_70 lRX9_122 ha0 rfl (q := 73) rfl ?_
      refine J_aload_n (z := 0) dX9_isWhole_73 rfl rfl (q := 74) rfl ?_
      obtain ⟨r9, er9, h⟩ := bindS h
      refine J_getR dX9_isWhole_74 lRX9_55 ha0 rfl (by decide) er9 (q := 77) rfl (fun fr9 => ?_)
      refine J_alen (t := 4) dX9_isWhole_77 fr9 (by decide) rfl (q := 78) rfl ?_
      refine J_icmp_ge (tgt := 100) dX9_isWhole_78 (by decide) (q := 81) rfl (fun c9 => ?_) (fun c9 => ?_)
      · rw [if_pos c9] at h
        refine J_iconst (x := 0) dX9_isWhole_100 (by decide) (q := 101) rfl ?_
        have h := Option.some.inj h
        subst h
        exact J_ireturn dX9_isWhole_101 rfl rfl rfl
      · rw [if_neg c9] at h
        refine J_aload_n (z := 0) dX9_isWhole_81 rfl rfl (q := 82) rfl ?_
        refine J_getR dX9_isWhole_82 lRX9_55 ha0 rfl (by decide) er9 (q := 85) rfl (fun _ => ?_)
        refine J_aload_n (z := 0) dX9_isWhole_85 rfl rfl (q := 86) rfl ?_
        refine J_getI dX9_isWhole_86 lRX9_122 ha0 rfl (q := 89) rfl ?_
        obtain ⟨g11, h⟩ := iteS h
        obtain ⟨r12, er12, h⟩ := bindS h
        refine J_aald (t := 4) dX9_isWhole_89 fr9 (by decide) (ixB_ok g11) er12 (q := 90) rfl (fun fr12 => ?_)
        obtain ⟨vk13, sk13, hk13, h⟩ := bnd2S h
        refine J_cVi (as := []) dX9_isWhole_90 mRX9_133 fr12 (tX5_parse fr12 hk13) rfl (Nat.le_of_ble_eq_true rfl) (Nat.le_of_ble_eq_true rfl) (Nat.le_of_ble_eq_true rfl) (q := 93) rfl ?_
        intro bk13
        refine J_if_eq (tgt := 100) dX9_isWhole_93 (by decide) (q := 96) rfl (fun c13 => ?_) (fun c13 => ?_)
        · rw [if_pos c13] at h
          refine J_iconst (x := 0) dX9_isWhole_100 (by decide) (q := 101) rfl ?_
          have h := Option.some.inj h
          subst h
          exact J_ireturn dX9_isWhole_101 rfl rfl rfl
        · rw [if_neg c13] at h
          refine J_iconst (x := 1) dX9_isWhole_96 (by decide) (q := 97) rfl ?_
          refine J_goto (tgt := 101) dX9_isWhole_97 (by decide) ?_
          have h := Option.some.inj h
          subst h
          exact J_ireturn dX9_isWhole_101 rfl rfl rfl
  · intro hx
    rw [if_neg (hx (0, 28) (by decide)), if_neg (hx (1, 36) (by decide)), if_neg (hx (2, 69) (by decide))] at h
    refine J_iconst (x := 0) dX9_isWhole_102 (by decide) (q := 103) rfl ?_
    have h := Option.some.inj h
    subst h
    exact J_ireturn dX9_isWhole_103 rfl rfl rfl

def fX9_fault (a0 : Nat) (a1 : Int32) (σ : Mm) : Option (Int32 × Mm) :=
  if a1 < 0 then some ((-2), σ) else if a1 ≤ 2 then bnd2 (fX9_isWhole a0 a1 σ) fun vk3 sk3 => if vk3 = 0 then (gR sk3 a0 0).bind fun r5 => some ((gI sk3 r5 3), sk3) else some ((-1), sk3) else some ((-2), σ)
set_option maxRecDepth 20000 in
set_option maxHeartbeats 2000000 in
theorem tX9_fault {X : XS} {n : Nat} {σ : Mm} {a0 : Nat} {a1 : Int32} (ha0 : RT n a0 109) {res : Int32 × Mm} (h : fX9_fault a0 a1 σ = some res) : MT X yX9_fault mX9_fault 113 0 0 [.ref a0, .int a1] n σ (n, some (.int res.1), res.2) := by
  unfold fX9_fault at h
  refine MT_of (by decide +kernel) rfl (fun h => by cases h) (Nat.le_of_ble_eq_true rfl) ?_
  show J X mX9_fault 113 0 0 (n, some (.int res.1), res.2) 0 [(0, .ref a0), (1, .int a1)] [] n σ
  refine J_iload_n (z := 1) dX9_fault_0 rfl rfl (q := 1) rfl ?_
  refine J_if_lt (tgt := 9) dX9_fault_1 (by decide) (q := 4) rfl (fun c0 => ?_) (fun c0 => ?_)
  · rw [if_pos c0] at h
    refine J_bipush (x := (-2)) dX9_fault_9 (by decide) (q := 11) rfl ?_
    have h := Option.some.inj h
    subst h
    exact J_ireturn dX9_fault_11 rfl rfl rfl
  · rw [if_neg c0] at h
    refine J_iload_n (z := 1) dX9_fault_4 rfl rfl (q := 5) rfl ?_
    refine J_iconst (x := 2) dX9_fault_5 (by decide) (q := 6) rfl ?_
    refine J_icmp_le (tgt := 12) dX9_fault_6 (by decide) (q := 9) rfl (fun c1 => ?_) (fun c1 => ?_)
    · rw [if_pos c1] at h
      refine J_aload_n (z := 0) dX9_fault_12 rfl rfl (q := 13) rfl ?_
      refine J_iload_n (z := 1) dX9_fault_13 rfl rfl (q := 14) rfl ?_
      obtain ⟨vk3, sk3, hk3, h⟩ := bnd2S h
      refine J_cVi (as := [.int a1]) dX9_fault_14 mRX9_105 ha0 (tX9_isWhole ha0 hk3) rfl (Nat.le_of_ble_eq_true rfl) (Nat.le_of_ble_eq_true rfl) (Nat.le_of_ble_eq_true rfl) (q := 17) rfl ?_
      intro bk3
      refine J_if_eq (tgt := 24) dX9_fault_17 (by decide) (q := 20) rfl (fun c3 => ?_) (fun c3 => ?_)
      · rw [if_pos c3] at h
        refine J_aload_n (z := 0) dX9_fault_24 rfl rfl (q := 25) rfl ?_
        obtain ⟨r5, er5, h⟩ := bindS h
        refine J_getR dX9_fault_25 lRX9_10 ha0 rfl (by decide) er5 (q := 28) rfl (fun fr5 => ?_)
        refine J_getI dX9_fault_28 lRX9_109 fr5 rfl (q := 31) rfl ?_
        have h := Option.some.inj h
        subst h
        exact J_ireturn dX9_fault_31 rfl rfl rfl
      · rw [if_neg c3] at h
        refine J_iconst (x := (-1)) dX9_fault_20 (by decide) (q := 21) rfl ?_
        refine J_goto (tgt := 31) dX9_fault_21 (by decide) ?_
        have h := Option.some.inj h
        subst h
        exact J_ireturn dX9_fault_31 rfl rfl rfl
    · rw [if_neg c1] at h
      refine J_bipush (x := (-2)) dX9_fault_9 (by decide) (q := 11) rfl ?_
      have h := Option.some.inj h
      subst h
      exact J_ireturn dX9_fault_11 rfl rfl rfl

def fX9_keepLaw (a0 : Nat) (σ : Mm) : Option (Int32 × Mm) :=
  (gR σ a0 0).bind fun r1 => some (((gI (sI (sI σ r1 1 0) a0 14 ((gI (sI σ r1 1 0) a0 14) + 1)) a0 14) - 1), (sI (sI σ r1 1 0) a0 14 ((gI (sI σ r1 1 0) a0 14) + 1)))
set_option maxRecDepth 20000 in
set_option maxHeartbeats 2000000 in
theorem tX9_keepLaw {X : XS} {n : Nat} {σ : Mm} {a0 : Nat} (ha0 : RT n a0 109) {res : Int32 × Mm} (h : fX9_keepLaw a0 σ = some res) : MT X yX9_keepLaw mX9_keepLaw 1 0 0 [.ref a0] n σ (n, some (.int res.1), res.2) := by
  unfold fX9_keepLaw at h
  refine MT_of (by decide +kernel) rfl (fun h => by cases h) (Nat.le_of_ble_eq_true rfl) ?_
  show J X mX9_keepLaw 1 0 0 (n, some (.int res.1), res.2) 0 [(0, .ref a0)] [] n σ
  refine J_aload_n (z := 0) dX9_keepLaw_0 rfl rfl (q := 1) rfl ?_
  obtain ⟨r1, er1, h⟩ := bindS h
  refine J_getR dX9_keepLaw_1 lRX9_10 ha0 rfl (by decide) er1 (q := 4) rfl (fun fr1 => ?_)
  refine J_iconst (x := 0) dX9_keepLaw_4 (by decide) (q := 5) rfl ?_
  refine J_putI dX9_keepLaw_5 lRX9_98 (fun h => by cases h) fr1 rfl (q := 8) rfl ?_
  refine J_aload_n (z := 0) dX9_keepLaw_8 rfl rfl (q := 9) rfl ?_
  refine J_dup dX9_keepLaw_9 rfl (q := 10) rfl ?_
  refine J_getI dX9_keepLaw_10 lRX9_116 ha0 rfl (q := 13) rfl ?_
  refine J_iconst (x := 1) dX9_keepLaw_13 (by decide) (q := 14) rfl ?_
  refine J_iadd dX9_keepLaw_14  (q := 15) rfl ?_
  refine J_putI dX9_keepLaw_15 lRX9_116 (fun h => by cases h) ha0 rfl (q := 18) rfl ?_
  refine J_aload_n (z := 0) dX9_keepLaw_18 rfl rfl (q := 19) rfl ?_
  refine J_getI dX9_keepLaw_19 lRX9_116 ha0 rfl (q := 22) rfl ?_
  refine J_iconst (x := 1) dX9_keepLaw_22 (by decide) (q := 23) rfl ?_
  refine J_isub dX9_keepLaw_23  (q := 24) rfl ?_
  have h := Option.some.inj h
  subst h
  exact J_ireturn dX9_keepLaw_24 rfl rfl rfl

def fX9_keepPlan (a0 : Nat) (σ : Mm) : Option (Int32 × Mm) :=
  (gR σ a0 0).bind fun r1 => some (((gI (sI (sI σ r1 1 0) a0 15 ((gI (sI σ r1 1 0) a0 15) + 1)) a0 15) - 1), (sI (sI σ r1 1 0) a0 15 ((gI (sI σ r1 1 0) a0 15) + 1)))
set_option maxRecDepth 20000 in
set_option maxHeartbeats 2000000 in
theorem tX9_keepPlan {X : XS} {n : Nat} {σ : Mm} {a0 : Nat} (ha0 : RT n a0 109) {res : Int32 × Mm} (h : fX9_keepPlan a0 σ = some res) : MT X yX9_keepPlan mX9_keepPlan 1 0 0 [.ref a0] n σ (n, some (.int res.1), res.2) := by
  unfold fX9_keepPlan at h
  refine MT_of (by decide +kernel) rfl (fun h => by cases h) (Nat.le_of_ble_eq_true rfl) ?_
  show J X mX9_keepPlan 1 0 0 (n, some (.int res.1), res.2) 0 [(0, .ref a0)] [] n σ
  refine J_aload_n (z := 0) dX9_keepPlan_0 rfl rfl (q := 1) rfl ?_
  obtain ⟨r1, er1, h⟩ := bindS h
  refine J_getR dX9_keepPlan_1 lRX9_10 ha0 rfl (by decide) er1 (q := 4) rfl (fun fr1 => ?_)
  refine J_iconst (x := 0) dX9_keepPlan_4 (by decide) (q := 5) rfl ?_
  refine J_putI dX9_keepPlan_5 lRX9_98 (fun h => by cases h) fr1 rfl (q := 8) rfl ?_
  refine J_aload_n (z := 0) dX9_keepPlan_8 rfl rfl (q := 9) rfl ?_
  refine J_dup dX9_keepPlan_9 rfl (q := 10) rfl ?_
  refine J_getI dX9_keepPlan_10 lRX9_122 ha0 rfl (q := 13) rfl ?_
  refine J_iconst (x := 1) dX9_keepPlan_13 (by decide) (q := 14) rfl ?_
  refine J_iadd dX9_keepPlan_14  (q := 15) rfl ?_
  refine J_putI dX9_keepPlan_15 lRX9_122 (fun h => by cases h) ha0 rfl (q := 18) rfl ?_
  refine J_aload_n (z := 0) dX9_keepPlan_18 rfl rfl (q := 19) rfl ?_
  refine J_getI dX9_keepPlan_19 lRX9_122 ha0 rfl (q := 22) rfl ?_
  refine J_iconst (x := 1) dX9_keepPlan_22 (by decide) (q := 23) rfl ?_
  refine J_isub dX9_keepPlan_23  (q := 24) rfl ?_
  have h := Option.some.inj h
  subst h
  exact J_ireturn dX9_keepPlan_24 rfl rfl rfl

def fX9_openHall (a0 : Nat) (σ : Mm) : Option (Int32 × Mm) :=
  (gR σ a0 1).bind fun r1 => (gR σ a0 2).bind fun r2 => (fX1_takeFrom r1 r2 σ).bind fun sk3 => (gR sk3 a0 7).bind fun r4 => (gR sk3 a0 1).bind fun r5 => (fX6_startIn r4 r5 sk3).bind fun sk6 => (gR sk6 a0 9).bind fun r7 => (fX4_clear r7 sk6).bind fun sk8 => (gR sk8 a0 10).bind fun r9 => (fX2_clear r9 sk8).bind fun sk10 => (gR sk10 a0 0).bind fun r11 => (gR sk10 a0 1).bind fun r12 => some ((gI (sI (sI sk10 a0 13 0) r11 1 0) r12 4), (sI (sI sk10 a0 13 0) r11 1 0))
set_option maxRecDepth 20000 in
set_option maxHeartbeats 2000000 in
theorem tX9_openHall {X : XS} {n : Nat} {σ : Mm} {a0 : Nat} (ha0 : RT n a0 109) {res : Int32 × Mm} (h : fX9_openHall a0 σ = some res) : MT X yX9_openHall mX9_openHall 4 0 0 [.ref a0] n σ (n, some (.int res.1), res.2) := by
  unfold fX9_openHall at h
  refine MT_of (by decide +kernel) rfl (fun h => by cases h) (Nat.le_of_ble_eq_true rfl) ?_
  show J X mX9_openHall 4 0 0 (n, some (.int res.1), res.2) 0 [(0, .ref a0)] [] n σ
  refine J_aload_n (z := 0) dX9_openHall_0 rfl rfl (q := 1) rfl ?_
  obtain ⟨r1, er1, h⟩ := bindS h
  refine J_getR dX9_openHall_1 lRX9_21 ha0 rfl (by decide) er1 (q := 4) rfl (fun fr1 => ?_)
  refine J_aload_n (z := 0) dX9_openHall_4 rfl rfl (q := 5) rfl ?_
  obtain ⟨r2, er2, h⟩ := bindS h
  refine J_getR dX9_openHall_5 lRX9_25 ha0 rfl (by decide) er2 (q := 8) rfl (fun fr2 => ?_)
  obtain ⟨sk3, hk3, h⟩ := bindS h
  refine J_cVv (as := [.ref r2]) dX9_openHall_8 mRX9_134 fr1 (tX1_takeFrom fr1 fr2 hk3) rfl (Nat.le_of_ble_eq_true rfl) (Nat.le_of_ble_eq_true rfl) (Nat.le_of_ble_eq_true rfl) (q := 11) rfl ?_
  refine J_aload_n (z := 0) dX9_openHall_11 rfl rfl (q := 12) rfl ?_
  obtain ⟨r4, er4, h⟩ := bindS h
  refine J_getR dX9_openHall_12 lRX9_63 ha0 rfl (by decide) er4 (q := 15) rfl (fun fr4 => ?_)
  refine J_aload_n (z := 0) dX9_openHall_15 rfl rfl (q := 16) rfl ?_
  obtain ⟨r5, er5, h⟩ := bindS h
  refine J_getR dX9_openHall_16 lRX9_21 ha0 rfl (by decide) er5 (q := 19) rfl (fun fr5 => ?_)
  obtain ⟨sk6, hk6, h⟩ := bindS h
  refine J_cVv (as := [.ref r5]) dX9_openHall_19 mRX9_137 fr4 (tX6_startIn fr4 fr5 hk6) rfl (Nat.le_of_ble_eq_true rfl) (Nat.le_of_ble_eq_true rfl) (Nat.le_of_ble_eq_true rfl) (q := 22) rfl ?_
  refine J_aload_n (z := 0) dX9_openHall_22 rfl rfl (q := 23) rfl ?_
  obtain ⟨r7, er7, h⟩ := bindS h
  refine J_getR dX9_openHall_23 lRX9_73 ha0 rfl (by decide) er7 (q := 26) rfl (fun fr7 => ?_)
  obtain ⟨sk8, hk8, h⟩ := bindS h
  refine J_cVv (as := []) dX9_openHall_26 mRX9_140 fr7 (tX4_clear fr7 hk8) rfl (Nat.le_of_ble_eq_true rfl) (Nat.le_of_ble_eq_true rfl) (Nat.le_of_ble_eq_true rfl) (q := 29) rfl ?_
  refine J_aload_n (z := 0) dX9_openHall_29 rfl rfl (q := 30) rfl ?_
  obtain ⟨r9, er9, h⟩ := bindS h
  refine J_getR dX9_openHall_30 lRX9_80 ha0 rfl (by decide) er9 (q := 33) rfl (fun fr9 => ?_)
  obtain ⟨sk10, hk10, h⟩ := bindS h
  refine J_cVv (as := []) dX9_openHall_33 mRX9_143 fr9 (tX2_clear fr9 hk10) rfl (Nat.le_of_ble_eq_true rfl) (Nat.le_of_ble_eq_true rfl) (Nat.le_of_ble_eq_true rfl) (q := 36) rfl ?_
  refine J_aload_n (z := 0) dX9_openHall_36 rfl rfl (q := 37) rfl ?_
  refine J_iconst (x := 0) dX9_openHall_37 (by decide) (q := 38) rfl ?_
  refine J_putZ dX9_openHall_38 lRX9_144 (fun h => by cases h) ha0 rfl (by decide) (by decide) (q := 41) rfl ?_
  refine J_aload_n (z := 0) dX9_openHall_41 rfl rfl (q := 42) rfl ?_
  obtain ⟨r11, er11, h⟩ := bindS h
  refine J_getR dX9_openHall_42 lRX9_10 ha0 rfl (by decide) er11 (q := 45) rfl (fun fr11 => ?_)
  refine J_iconst (x := 0) dX9_openHall_45 (by decide) (q := 46) rfl ?_
  refine J_putI dX9_openHall_46 lRX9_98 (fun h => by cases h) fr11 rfl (q := 49) rfl ?_
  refine J_aload_n (z := 0) dX9_openHall_49 rfl rfl (q := 50) rfl ?_
  obtain ⟨r12, er12, h⟩ := bindS h
  refine J_getR dX9_openHall_50 lRX9_21 ha0 rfl (by decide) er12 (q := 53) rfl (fun fr12 => ?_)
  refine J_getI dX9_openHall_53 lRX9_148 fr12 rfl (q := 56) rfl ?_
  have h := Option.some.inj h
  subst h
  exact J_ireturn dX9_openHall_56 rfl rfl rfl

def fX9_text (a0 : Nat) (a1 : Int32) (σ : Mm) : Option (Int32 × Mm) :=
  if a1 = 0 then bnd2 (fX9_isWhole a0 a1 σ) fun vk1 sk1 => if vk1 = 0 then some ((-1), sk1) else bnd2 (fX9_openHall a0 sk1) fun vk3 sk3 => some (vk3, sk3) else if a1 = 1 then if 4 ≤ (gI σ a0 14) then some ((-1), σ) else bnd2 (fX9_isWhole a0 a1 σ) fun vk5 sk5 => if vk5 = 0 then some ((-1), sk5) else bnd2 (fX9_keepLaw a0 sk5) fun vk7 sk7 => some (vk7, sk7) else if a1 = 2 then if 4 ≤ (gI σ a0 15) then some ((-1), σ) else bnd2 (fX9_isWhole a0 a1 σ) fun vk9 sk9 => if vk9 = 0 then some ((-1), sk9) else bnd2 (fX9_keepPlan a0 sk9) fun vk11 sk11 => some (vk11, sk11) else some ((-1), σ)
set_option maxRecDepth 20000 in
set_option maxHeartbeats 2000000 in
theorem tX9_text {X : XS} {n : Nat} {σ : Mm} {a0 : Nat} {a1 : Int32} (ha0 : RT n a0 109) {res : Int32 × Mm} (h : fX9_text a0 a1 σ = some res) : MT X yX9_text mX9_text 113 0 0 [.ref a0, .int a1] n σ (n, some (.int res.1), res.2) := by
  unfold fX9_text at h
  refine MT_of (by decide +kernel) rfl (fun h => by cases h) (Nat.le_of_ble_eq_true rfl) ?_
  show J X mX9_text 113 0 0 (n, some (.int res.1), res.2) 0 [(0, .ref a0), (1, .int a1)] [] n σ
  refine J_iload_n (z := 1) dX9_text_0 rfl rfl (q := 1) rfl ?_
  refine J_table dX9_text_1 [(0, 28), (1, 45), (2, 70)] 95 (by decide) (by decide) (by decide) ?_ ?_
  · refine List.forall_mem_cons.mpr ⟨fun hx => ?_, List.forall_mem_cons.mpr ⟨fun hx => ?_, List.forall_mem_cons.mpr ⟨fun hx => ?_, fun _ hh => absurd hh List.not_mem_nil⟩⟩⟩
    · replace hx : a1 = 0 := hx
      rw [if_pos hx] at h
      refine J_aload_n (z := 0) dX9_text_28 rfl rfl (q := 29) rfl ?_
      refine J_iload_n (z := 1) dX9_text_29 rfl rfl (q := 30) rfl ?_
      obtain ⟨vk1, sk1, hk1, h⟩ := bnd2S h
      refine J_cVi (as := [.int a1]) dX9_text_30 mRX9_105 ha0 (tX9_isWhole ha0 hk1) rfl (Nat.le_of_ble_eq_true rfl) (Nat.le_of_ble_eq_true rfl) (Nat.le_of_ble_eq_true rfl) (q := 33) rfl ?_
      intro bk1
      refine J_if_eq (tgt := 43) dX9_text_33 (by decide) (q := 36) rfl (fun c1 => ?_) (fun c1 => ?_)
      · rw [if_pos c1] at h
        refine J_iconst (x := (-1)) dX9_text_43 (by decide) (q := 44) rfl ?_
        have h := Option.some.inj h
        subst h
        exact J_ireturn dX9_text_44 rfl rfl rfl
      · rw [if_neg c1] at h
        refine J_aload_n (z := 0) dX9_text_36 rfl rfl (q := 37) rfl ?_
        obtain ⟨vk3, sk3, hk3, h⟩ := bnd2S h
        refine J_cVi (as := []) dX9_text_37 mRX9_112 ha0 (tX9_openHall ha0 hk3) rfl (Nat.le_of_ble_eq_true rfl) (Nat.le_of_ble_eq_true rfl) (Nat.le_of_ble_eq_true rfl) (q := 40) rfl ?_
        intro bk3
        refine J_goto (tgt := 44) dX9_text_40 (by decide) ?_
        have h := Option.some.inj h
        subst h
        exact J_ireturn dX9_text_44 rfl rfl rfl
    · replace hx : a1 = 1 := hx
      rw [if_neg (by rw [hx]; decide), if_pos hx] at h
      refine J_aload_n (z := 0) dX9_text_45 rfl rfl (q := 46) rfl ?_
      refine J_getI dX9_text_46 lRX9_116 ha0 rfl (q := 49) rfl ?_
      refine J_iconst (x := 4) dX9_text_49 (by decide) (q := 50) rfl ?_
      refine J_icmp_ge (tgt := 68) dX9_text_50 (by decide) (q := 53) rfl (fun c3 => ?_) (fun c3 => ?_)
      · rw [if_pos c3] at h
        refine J_iconst (x := (-1)) dX9_text_68 (by decide) (q := 69) rfl ?_
        have h := Option.some.inj h
        subst h
        exact J_ireturn dX9_text_69 rfl rfl rfl
      · rw [if_neg c3] at h
        refine J_aload_n (z := 0) dX9_text_53 rfl rfl (q := 54) rfl ?_
        refine J_iload_n (z := 1) dX9_text_54 rfl rfl (q := 55) rfl ?_
        obtain ⟨vk5, sk5, hk5, h⟩ := bnd2S h
        refine J_cVi (as := [.int a1]) dX9_text_55 mRX9_105 ha0 (tX9_isWhole ha0 hk5) rfl (Nat.le_of_ble_eq_true rfl) (Nat.le_of_ble_eq_true rfl) (Nat.le_of_ble_eq_true rfl) (q := 58) rfl ?_
        intro bk5
        refine J_if_eq (tgt := 68) dX9_text_58 (by decide) (q := 61) rfl (fun c5 => ?_) (fun c5 => ?_)
        · rw [if_pos c5] at h
          refine J_iconst (x := (-1)) dX9_text_68 (by decide) (q := 69) rfl ?_
          have h := Option.some.inj h
          subst h
          exact J_ireturn dX9_text_69 rfl rfl rfl
        · rw [if_neg c5] at h
          refine J_aload_n (z := 0) dX9_text_61 rfl rfl (q := 62) rfl ?_
          obtain ⟨vk7, sk7, hk7, h⟩ := bnd2S h
          refine J_cVi (as := []) dX9_text_62 mRX9_119 ha0 (tX9_keepLaw ha0 hk7) rfl (Nat.le_of_ble_eq_true rfl) (Nat.le_of_ble_eq_true rfl) (Nat.le_of_ble_eq_true rfl) (q := 65) rfl ?_
          intro bk7
          refine J_goto (tgt := 69) dX9_text_65 (by decide) ?_
          have h := Option.some.inj h
          subst h
          exact J_ireturn dX9_text_69 rfl rfl rfl
    · replace hx : a1 = 2 := hx
      rw [if_neg (by rw [hx]; decide), if_neg (by rw [hx]; decide), if_pos hx] at h
      refine J_aload_n (z := 0) dX9_text_70 rfl rfl (q := 71) rfl ?_
      refine J_getI dX9_text_71 lRX9_122 ha0 rfl (q := 74) rfl ?_
      refine J_iconst (x := 4) dX9_text_74 (by decide) (q := 75) rfl ?_
      refine J_icmp_ge (tgt := 93) dX9_text_75 (by decide) (q := 78) rfl (fun c7 => ?_) (fun c7 => ?_)
      · rw [if_pos c7] at h
        refine J_iconst (x := (-1)) dX9_text_93 (by decide) (q := 94) rfl ?_
        have h := Option.some.inj h
        subst h
        exact J_ireturn dX9_text_94 rfl rfl rfl
      · rw [if_neg c7] at h
        refine J_aload_n (z := 0) dX9_text_78 rfl rfl (q := 79) rfl ?_
        refine J_iload_n (z := 1) dX9_text_79 rfl rfl (q := 80) rfl ?_
        obtain ⟨vk9, sk9, hk9, h⟩ := bnd2S h
        refine J_cVi (as := [.int a1]) dX9_text_80 mRX9_105 ha0 (tX9_isWhole ha0 hk9) rfl (Nat.le_of_ble_eq_true rfl) (Nat.le_of_ble_eq_true rfl) (Nat.le_of_ble_eq_true rfl) (q := 83) rfl ?_
        intro bk9
        refine J_if_eq (tgt := 93) dX9_text_83 (by decide) (q := 86) rfl (fun c9 => ?_) (fun c9 => ?_)
        · rw [if_pos c9] at h
          refine J_iconst (x := (-1)) dX9_text_93 (by decide) (q := 94) rfl ?_
          have h := Option.some.inj h
          subst h
          exact J_ireturn dX9_text_94 rfl rfl rfl
        · rw [if_neg c9] at h
          refine J_aload_n (z := 0) dX9_text_86 rfl rfl (q := 87) rfl ?_
          obtain ⟨vk11, sk11, hk11, h⟩ := bnd2S h
          refine J_cVi (as := []) dX9_text_87 mRX9_125 ha0 (tX9_keepPlan ha0 hk11) rfl (Nat.le_of_ble_eq_true rfl) (Nat.le_of_ble_eq_true rfl) (Nat.le_of_ble_eq_true rfl) (q := 90) rfl ?_
          intro bk11
          refine J_goto (tgt := 94) dX9_text_90 (by decide) ?_
          have h := Option.some.inj h
          subst h
          exact J_ireturn dX9_text_94 rfl rfl rfl
  · intro hx
    rw [if_neg (hx (0, 28) (by decide)), if_neg (hx (1, 45) (by decide)), if_neg (hx (2, 70) (by decide))] at h
    refine J_iconst (x := (-1)) dX9_text_95 (by decide) (q := 96) rfl ?_
    have h := Option.some.inj h
    subst h
    exact J_ireturn dX9_text_96 rfl rfl rfl

def fX9_hall (a0 : Nat) (a1 : Int32) (σ : Mm) : Option (Int32) :=
  (gR σ a0 1).bind fun r1 => (fX1_isOpen r1 σ).bind fun vk2 => if vk2 = 0 then some (-1) else if a1 = 0 then (fX1_width r1 σ).bind fun vk4 => some vk4 else if a1 = 1 then (fX1_height r1 σ).bind fun vk5 => some vk5 else if a1 = 2 then (gR σ a0 7).bind fun r6 => some (gI σ r6 5) else if a1 = 3 then (fX1_coldFall r1 σ).bind fun vk7 => some vk7 else if a1 = 4 then (fX1_april r1 σ).bind fun vk8 => some vk8 else some (-1)
set_option maxRecDepth 20000 in
set_option maxHeartbeats 2000000 in
theorem tX9_hall {X : XS} {n : Nat} {σ : Mm} {a0 : Nat} {a1 : Int32} (ha0 : RT n a0 109) {res : Int32} (h : fX9_hall a0 a1 σ = some res) : MT X yX9_hall mX9_hall 2 0 0 [.ref a0, .int a1] n σ (n, some (.int res), σ) := by
  unfold fX9_hall at h
  refine MT_of (by decide +kernel) rfl (fun h => by cases h) (Nat.le_of_ble_eq_true rfl) ?_
  show J X mX9_hall 2 0 0 (n, some (.int res), σ) 0 [(0, .ref a0), (1, .int a1)] [] n σ
  refine J_aload_n (z := 0) dX9_hall_0 rfl rfl (q := 1) rfl ?_
  obtain ⟨r1, er1, h⟩ := bindS h
  refine J_getR dX9_hall_1 lRX9_21 ha0 rfl (by decide) er1 (q := 4) rfl (fun fr1 => ?_)
  obtain ⟨vk2, hk2, h⟩ := bindS h
  refine J_cVi (as := []) dX9_hall_4 mRX9_151 fr1 (tX1_isOpen fr1 hk2) rfl (Nat.le_of_ble_eq_true rfl) (Nat.le_of_ble_eq_true rfl) (Nat.le_of_ble_eq_true rfl) (q := 7) rfl ?_
  intro bk2
  refine J_if_ne (tgt := 12) dX9_hall_7 (by decide) (q := 10) rfl (fun c2 => ?_) (fun c2 => ?_)
  · rw [if_neg c2] at h
    refine J_iload_n (z := 1) dX9_hall_12 rfl rfl (q := 13) rfl ?_
    refine J_table dX9_hall_13 [(0, 48), (1, 56), (2, 64), (3, 72), (4, 80)] 88 (by decide) (by decide) (by decide) ?_ ?_
    · refine List.forall_mem_cons.mpr ⟨fun hx => ?_, List.forall_mem_cons.mpr ⟨fun hx => ?_, List.forall_mem_cons.mpr ⟨fun hx => ?_, List.forall_mem_cons.mpr ⟨fun hx => ?_, List.forall_mem_cons.mpr ⟨fun hx => ?_, fun _ hh => absurd hh List.not_mem_nil⟩⟩⟩⟩⟩
      · replace hx : a1 = 0 := hx
        rw [if_pos hx] at h
        refine J_aload_n (z := 0) dX9_hall_48 rfl rfl (q := 49) rfl ?_
        refine J_getR dX9_hall_49 lRX9_21 ha0 rfl (by decide) er1 (q := 52) rfl (fun _ => ?_)
        obtain ⟨vk4, hk4, h⟩ := bindS h
        refine J_cVi (as := []) dX9_hall_52 mRX9_154 fr1 (tX1_width fr1 hk4) rfl (Nat.le_of_ble_eq_true rfl) (Nat.le_of_ble_eq_true rfl) (Nat.le_of_ble_eq_true rfl) (q := 55) rfl ?_
        intro bk4
        have h := Option.some.inj h
        subst h
        exact J_ireturn dX9_hall_55 rfl rfl rfl
      · replace hx : a1 = 1 := hx
        rw [if_neg (by rw [hx]; decide), if_pos hx] at h
        refine J_aload_n (z := 0) dX9_hall_56 rfl rfl (q := 57) rfl ?_
        refine J_getR dX9_hall_57 lRX9_21 ha0 rfl (by decide) er1 (q := 60) rfl (fun _ => ?_)
        obtain ⟨vk5, hk5, h⟩ := bindS h
        refine J_cVi (as := []) dX9_hall_60 mRX9_157 fr1 (tX1_height fr1 hk5) rfl (Nat.le_of_ble_eq_true rfl) (Nat.le_of_ble_eq_true rfl) (Nat.le_of_ble_eq_true rfl) (q := 63) rfl ?_
        intro bk5
        have h := Option.some.inj h
        subst h
        exact J_ireturn dX9_hall_63 rfl rfl rfl
      · replace hx : a1 = 2 := hx
        rw [if_neg (by rw [hx]; decide), if_neg (by rw [hx]; decide), if_pos hx] at h
        refine J_aload_n (z := 0) dX9_hall_64 rfl rfl (q := 65) rfl ?_
        obtain ⟨r6, er6, h⟩ := bindS h
        refine J_getR dX9_hall_65 lRX9_63 ha0 rfl (by decide) er6 (q := 68) rfl (fun fr6 => ?_)
        refine J_getI dX9_hall_68 lRX9_160 fr6 rfl (q := 71) rfl ?_
        have h := Option.some.inj h
        subst h
        exact J_ireturn dX9_hall_71 rfl rfl rfl
      · replace hx : a1 = 3 := hx
        rw [if_neg (by rw [hx]; decide), if_neg (by rw [hx]; decide), if_neg (by rw [hx]; decide), if_pos hx] at h
        refine J_aload_n (z := 0) dX9_hall_72 rfl rfl (q := 73) rfl ?_
        refine J_getR dX9_hall_73 lRX9_21 ha0 rfl (by decide) er1 (q := 76) rfl (fun _ => ?_)
        obtain ⟨vk7, hk7, h⟩ := bindS h
        refine J_cVi (as := []) dX9_hall_76 mRX9_163 fr1 (tX1_coldFall fr1 hk7) rfl (Nat.le_of_ble_eq_true rfl) (Nat.le_of_ble_eq_true rfl) (Nat.le_of_ble_eq_true rfl) (q := 79) rfl ?_
        intro bk7
        have h := Option.some.inj h
        subst h
        exact J_ireturn dX9_hall_79 rfl rfl rfl
      · replace hx : a1 = 4 := hx
        rw [if_neg (by rw [hx]; decide), if_neg (by rw [hx]; decide), if_neg (by rw [hx]; decide), if_neg (by rw [hx]; decide), if_pos hx] at h
        refine J_aload_n (z := 0) dX9_hall_80 rfl rfl (q := 81) rfl ?_
        refine J_getR dX9_hall_81 lRX9_21 ha0 rfl (by decide) er1 (q := 84) rfl (fun _ => ?_)
        obtain ⟨vk8, hk8, h⟩ := bindS h
        refine J_cVi (as := []) dX9_hall_84 mRX9_166 fr1 (tX1_april fr1 hk8) rfl (Nat.le_of_ble_eq_true rfl) (Nat.le_of_ble_eq_true rfl) (Nat.le_of_ble_eq_true rfl) (q := 87) rfl ?_
        intro bk8
        have h := Option.some.inj h
        subst h
        exact J_ireturn dX9_hall_87 rfl rfl rfl
    · intro hx
      rw [if_neg (hx (0, 48) (by decide)), if_neg (hx (1, 56) (by decide)), if_neg (hx (2, 64) (by decide)), if_neg (hx (3, 72) (by decide)), if_neg (hx (4, 80) (by decide))] at h
      refine J_iconst (x := (-1)) dX9_hall_88 (by decide) (q := 89) rfl ?_
      have h := Option.some.inj h
      subst h
      exact J_ireturn dX9_hall_89 rfl rfl rfl
  · rw [if_pos c2] at h
    refine J_iconst (x := (-1)) dX9_hall_10 (by decide) (q := 11) rfl ?_
    have h := Option.some.inj h
    subst h
    exact J_ireturn dX9_hall_11 rfl rfl rfl

