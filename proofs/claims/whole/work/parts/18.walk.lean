def fX10_readClause_b53 (a0 : Nat) (a1 : Int32) (z0 : Int32) (σ : Mm) : Option (Mm) :=
  if z0 = 0 then bnd2 (fX10_fails a0 σ) fun vk14 sk14 => some sk14 else if a1 = 115 then (gR σ a0 19).bind fun r12 => (fX10_readItems a0 a1 r12 0 (1100 + 2 * 0) (sI (sI σ a0 10 ((gI σ a0 10) + 1)) a0 32 1)).bind fun sk13 => some sk13 else if a1 = 112 then (gR σ a0 21).bind fun r10 => (fX10_readItems a0 a1 r10 (4 * ((gI (sI (sI σ a0 10 ((gI σ a0 10) + 1)) a0 29 ((gI (sI σ a0 10 ((gI σ a0 10) + 1)) a0 29) + 1)) a0 29) - 1)) (1100 + 2 * 1) (sI (sI σ a0 10 ((gI σ a0 10) + 1)) a0 29 ((gI (sI σ a0 10 ((gI σ a0 10) + 1)) a0 29) + 1))).bind fun sk11 => some sk11 else (gR σ a0 23).bind fun r8 => (fX10_readItems a0 a1 r8 (4 * ((gI (sI (sI σ a0 10 ((gI σ a0 10) + 1)) a0 30 ((gI (sI σ a0 10 ((gI σ a0 10) + 1)) a0 30) + 1)) a0 30) - 1)) (1100 + 2 * 2) (sI (sI σ a0 10 ((gI σ a0 10) + 1)) a0 30 ((gI (sI σ a0 10 ((gI σ a0 10) + 1)) a0 30) + 1))).bind fun sk9 => some sk9
set_option maxRecDepth 20000 in
set_option maxHeartbeats 2000000 in
theorem tX10_readClause_b53 {X : XS} {n : Nat} {σ : Mm} {a0 : Nat} {a1 : Int32} {z0 : Int32} (ha0 : RT n a0 110) {res : Mm} (h : fX10_readClause_b53 a0 a1 z0 σ = some res) : J X mX10_readClause 9 0 0 (n, none, res) 53 [(0, .ref a0), (1, .int a1)] [.int z0] n σ := by
  unfold fX10_readClause_b53 at h
  refine J_istore_n (lv' := [(2, .int z0), (0, .ref a0), (1, .int a1)]) dX10_readClause_53 rfl (by decide) rfl (q := 54) rfl ?_
  refine J_iload_n (z := 0) dX10_readClause_54 rfl rfl (q := 55) rfl ?_
  refine J_if_ne (tgt := 64) dX10_readClause_55 (by decide) (q := 58) rfl (fun c4 => ?_) (fun c4 => ?_)
  · rw [if_neg c4] at h
    refine J_aload_n (z := 1) dX10_readClause_64 rfl rfl (q := 65) rfl ?_
    refine J_dup dX10_readClause_65 rfl (q := 66) rfl ?_
    refine J_getI dX10_readClause_66 lRX10_119 ha0 rfl (q := 69) rfl ?_
    refine J_iconst (x := 1) dX10_readClause_69 (by decide) (q := 70) rfl ?_
    refine J_iadd dX10_readClause_70  (q := 71) rfl ?_
    refine J_putI dX10_readClause_71 lRX10_119 (fun h => by cases h) ha0 rfl (q := 74) rfl ?_
    refine J_iload_n (z := 2) dX10_readClause_74 rfl rfl (q := 75) rfl ?_
    refine J_bipush (x := 115) dX10_readClause_75 (by decide) (q := 77) rfl ?_
    refine J_icmp_ne (tgt := 100) dX10_readClause_77 (by decide) (q := 80) rfl (fun c5 => ?_) (fun c5 => ?_)
    · rw [if_neg c5] at h
      refine J_iload_n (z := 2) dX10_readClause_100 rfl rfl (q := 101) rfl ?_
      refine J_bipush (x := 112) dX10_readClause_101 (by decide) (q := 103) rfl ?_
      refine J_icmp_ne (tgt := 139) dX10_readClause_103 (by decide) (q := 106) rfl (fun c6 => ?_) (fun c6 => ?_)
      · rw [if_neg c6] at h
        refine J_aload_n (z := 1) dX10_readClause_139 rfl rfl (q := 140) rfl ?_
        refine J_dup dX10_readClause_140 rfl (q := 141) rfl ?_
        refine J_getI dX10_readClause_141 lRX10_248 ha0 rfl (q := 144) rfl ?_
        refine J_iconst (x := 1) dX10_readClause_144 (by decide) (q := 145) rfl ?_
        refine J_iadd dX10_readClause_145  (q := 146) rfl ?_
        refine J_putI dX10_readClause_146 lRX10_248 (fun h => by cases h) ha0 rfl (q := 149) rfl ?_
        refine J_aload_n (z := 1) dX10_readClause_149 rfl rfl (q := 150) rfl ?_
        refine J_iload_n (z := 2) dX10_readClause_150 rfl rfl (q := 151) rfl ?_
        refine J_aload_n (z := 1) dX10_readClause_151 rfl rfl (q := 152) rfl ?_
        obtain ⟨r8, er8, h⟩ := bindS h
        refine J_getR dX10_readClause_152 lRX10_52 ha0 rfl (by decide) er8 (q := 155) rfl (fun fr8 => ?_)
        refine J_iconst (x := 4) dX10_readClause_155 (by decide) (q := 156) rfl ?_
        refine J_aload_n (z := 1) dX10_readClause_156 rfl rfl (q := 157) rfl ?_
        refine J_getI dX10_readClause_157 lRX10_248 ha0 rfl (q := 160) rfl ?_
        refine J_iconst (x := 1) dX10_readClause_160 (by decide) (q := 161) rfl ?_
        refine J_isub dX10_readClause_161  (q := 162) rfl ?_
        refine J_imul dX10_readClause_162  (q := 163) rfl ?_
        refine J_ldcwS (tx := "cbvn") (j := 2) dX10_readClause_163 (by decide +kernel) (q := 166) rfl ?_
        obtain ⟨sk9, hk9, h⟩ := bindS h
        refine J_cVv (as := [.int a1, .ref r8, .int (4 * ((gI (sI (sI σ a0 10 ((gI σ a0 10) + 1)) a0 30 ((gI (sI σ a0 10 ((gI σ a0 10) + 1)) a0 30) + 1)) a0 30) - 1)), .ref (1100 + 2 * 2)]) dX10_readClause_166 mRX10_253 ha0 (tX10_readItems ha0 fr8 (rtS_2 _) hk9) rfl (Nat.le_of_ble_eq_true rfl) (Nat.le_of_ble_eq_true rfl) (Nat.le_of_ble_eq_true rfl) (q := 169) rfl ?_
        have h := Option.some.inj h
        subst h
        exact J_return dX10_readClause_169 rfl rfl
      · rw [if_pos c6] at h
        refine J_aload_n (z := 1) dX10_readClause_106 rfl rfl (q := 107) rfl ?_
        refine J_dup dX10_readClause_107 rfl (q := 108) rfl ?_
        refine J_getI dX10_readClause_108 lRX10_245 ha0 rfl (q := 111) rfl ?_
        refine J_iconst (x := 1) dX10_readClause_111 (by decide) (q := 112) rfl ?_
        refine J_iadd dX10_readClause_112  (q := 113) rfl ?_
        refine J_putI dX10_readClause_113 lRX10_245 (fun h => by cases h) ha0 rfl (q := 116) rfl ?_
        refine J_aload_n (z := 1) dX10_readClause_116 rfl rfl (q := 117) rfl ?_
        refine J_iload_n (z := 2) dX10_readClause_117 rfl rfl (q := 118) rfl ?_
        refine J_aload_n (z := 1) dX10_readClause_118 rfl rfl (q := 119) rfl ?_
        obtain ⟨r10, er10, h⟩ := bindS h
        refine J_getR dX10_readClause_119 lRX10_46 ha0 rfl (by decide) er10 (q := 122) rfl (fun fr10 => ?_)
        refine J_iconst (x := 4) dX10_readClause_122 (by decide) (q := 123) rfl ?_
        refine J_aload_n (z := 1) dX10_readClause_123 rfl rfl (q := 124) rfl ?_
        refine J_getI dX10_readClause_124 lRX10_245 ha0 rfl (q := 127) rfl ?_
        refine J_iconst (x := 1) dX10_readClause_127 (by decide) (q := 128) rfl ?_
        refine J_isub dX10_readClause_128  (q := 129) rfl ?_
        refine J_imul dX10_readClause_129  (q := 130) rfl ?_
        refine J_ldcwS (tx := "cdbt") (j := 1) dX10_readClause_130 (by decide +kernel) (q := 133) rfl ?_
        obtain ⟨sk11, hk11, h⟩ := bindS h
        refine J_cVv (as := [.int a1, .ref r10, .int (4 * ((gI (sI (sI σ a0 10 ((gI σ a0 10) + 1)) a0 29 ((gI (sI σ a0 10 ((gI σ a0 10) + 1)) a0 29) + 1)) a0 29) - 1)), .ref (1100 + 2 * 1)]) dX10_readClause_133 mRX10_253 ha0 (tX10_readItems ha0 fr10 (rtS_1 _) hk11) rfl (Nat.le_of_ble_eq_true rfl) (Nat.le_of_ble_eq_true rfl) (Nat.le_of_ble_eq_true rfl) (q := 136) rfl ?_
        refine J_goto (tgt := 169) dX10_readClause_136 (by decide) ?_
        have h := Option.some.inj h
        subst h
        exact J_return dX10_readClause_169 rfl rfl
    · rw [if_pos c5] at h
      refine J_aload_n (z := 1) dX10_readClause_80 rfl rfl (q := 81) rfl ?_
      refine J_iconst (x := 1) dX10_readClause_81 (by decide) (q := 82) rfl ?_
      refine J_putZ dX10_readClause_82 lRX10_242 (fun h => by cases h) ha0 rfl (by decide) (by decide) (q := 85) rfl ?_
      refine J_aload_n (z := 1) dX10_readClause_85 rfl rfl (q := 86) rfl ?_
      refine J_iload_n (z := 2) dX10_readClause_86 rfl rfl (q := 87) rfl ?_
      refine J_aload_n (z := 1) dX10_readClause_87 rfl rfl (q := 88) rfl ?_
      obtain ⟨r12, er12, h⟩ := bindS h
      refine J_getR dX10_readClause_88 lRX10_40 ha0 rfl (by decide) er12 (q := 91) rfl (fun fr12 => ?_)
      refine J_iconst (x := 0) dX10_readClause_91 (by decide) (q := 92) rfl ?_
      refine J_ldcS (tx := "whcfa") (j := 0) dX10_readClause_92 (by decide +kernel) (q := 94) rfl ?_
      obtain ⟨sk13, hk13, h⟩ := bindS h
      refine J_cVv (as := [.int a1, .ref r12, .int 0, .ref (1100 + 2 * 0)]) dX10_readClause_94 mRX10_253 ha0 (tX10_readItems ha0 fr12 (rtS_0 _) hk13) rfl (Nat.le_of_ble_eq_true rfl) (Nat.le_of_ble_eq_true rfl) (Nat.le_of_ble_eq_true rfl) (q := 97) rfl ?_
      refine J_goto (tgt := 169) dX10_readClause_97 (by decide) ?_
      have h := Option.some.inj h
      subst h
      exact J_return dX10_readClause_169 rfl rfl
  · rw [if_pos c4] at h
    refine J_aload_n (z := 1) dX10_readClause_58 rfl rfl (q := 59) rfl ?_
    obtain ⟨vk14, sk14, hk14, h⟩ := bnd2S h
    refine J_cVi (as := []) dX10_readClause_59 mRX10_134 ha0 (tX10_fails ha0 hk14) rfl (Nat.le_of_ble_eq_true rfl) (Nat.le_of_ble_eq_true rfl) (Nat.le_of_ble_eq_true rfl) (q := 62) rfl ?_
    intro bk14
    refine J_pop dX10_readClause_62 rfl (q := 63) rfl ?_
    have h := Option.some.inj h
    subst h
    exact J_return dX10_readClause_63 rfl rfl

def fX10_readClause_b52 (a0 : Nat) (a1 : Int32) (σ : Mm) : Option (Mm) :=
  fX10_readClause_b53 a0 a1 0 σ
set_option maxRecDepth 20000 in
set_option maxHeartbeats 2000000 in
theorem tX10_readClause_b52 {X : XS} {n : Nat} {σ : Mm} {a0 : Nat} {a1 : Int32} (ha0 : RT n a0 110) {res : Mm} (h : fX10_readClause_b52 a0 a1 σ = some res) : J X mX10_readClause 9 0 0 (n, none, res) 52 [(0, .ref a0), (1, .int a1)] [] n σ := by
  unfold fX10_readClause_b52 at h
  refine J_iconst (x := 0) dX10_readClause_52 (by decide) (q := 53) rfl ?_
  refine J_pick [0, 1] rfl ?_
  exact tX10_readClause_b53 ha0 h

def fX10_readClause_b48 (a0 : Nat) (a1 : Int32) (σ : Mm) : Option (Mm) :=
  fX10_readClause_b53 a0 a1 1 σ
set_option maxRecDepth 20000 in
set_option maxHeartbeats 2000000 in
theorem tX10_readClause_b48 {X : XS} {n : Nat} {σ : Mm} {a0 : Nat} {a1 : Int32} (ha0 : RT n a0 110) {res : Mm} (h : fX10_readClause_b48 a0 a1 σ = some res) : J X mX10_readClause 9 0 0 (n, none, res) 48 [(0, .ref a0), (1, .int a1)] [] n σ := by
  unfold fX10_readClause_b48 at h
  refine J_iconst (x := 1) dX10_readClause_48 (by decide) (q := 49) rfl ?_
  refine J_goto (tgt := 53) dX10_readClause_49 (by decide) ?_
  refine J_pick [0, 1] rfl ?_
  exact tX10_readClause_b53 ha0 h

def fX10_readClause_b33 (a0 : Nat) (a1 : Int32) (σ : Mm) : Option (Mm) :=
  if a1 = 114 then if 6 ≤ (gI σ a0 30) then fX10_readClause_b52 a0 a1 σ else fX10_readClause_b48 a0 a1 σ else fX10_readClause_b52 a0 a1 σ
set_option maxRecDepth 20000 in
set_option maxHeartbeats 2000000 in
theorem tX10_readClause_b33 {X : XS} {n : Nat} {σ : Mm} {a0 : Nat} {a1 : Int32} (ha0 : RT n a0 110) {res : Mm} (h : fX10_readClause_b33 a0 a1 σ = some res) : J X mX10_readClause 9 0 0 (n, none, res) 33 [(0, .ref a0), (1, .int a1)] [] n σ := by
  unfold fX10_readClause_b33 at h
  refine J_iload_n (z := 1) dX10_readClause_33 rfl rfl (q := 34) rfl ?_
  refine J_bipush (x := 114) dX10_readClause_34 (by decide) (q := 36) rfl ?_
  refine J_icmp_ne (tgt := 52) dX10_readClause_36 (by decide) (q := 39) rfl (fun c3 => ?_) (fun c3 => ?_)
  · rw [if_neg c3] at h
    refine J_pick [0, 1] rfl ?_
    exact tX10_readClause_b52 ha0 h
  · rw [if_pos c3] at h
    refine J_aload_n (z := 0) dX10_readClause_39 rfl rfl (q := 40) rfl ?_
    refine J_getI dX10_readClause_40 lRX10_248 ha0 rfl (q := 43) rfl ?_
    refine J_bipush (x := 6) dX10_readClause_43 (by decide) (q := 45) rfl ?_
    refine J_icmp_ge (tgt := 52) dX10_readClause_45 (by decide) (q := 48) rfl (fun c14 => ?_) (fun c14 => ?_)
    · rw [if_pos c14] at h
      refine J_pick [0, 1] rfl ?_
      exact tX10_readClause_b52 ha0 h
    · rw [if_neg c14] at h
      refine J_pick [0, 1] rfl ?_
      exact tX10_readClause_b48 ha0 h

def fX10_readClause_b18 (a0 : Nat) (a1 : Int32) (σ : Mm) : Option (Mm) :=
  if a1 = 112 then if (gI σ a0 29) < 12 then fX10_readClause_b48 a0 a1 σ else fX10_readClause_b33 a0 a1 σ else fX10_readClause_b33 a0 a1 σ
set_option maxRecDepth 20000 in
set_option maxHeartbeats 2000000 in
theorem tX10_readClause_b18 {X : XS} {n : Nat} {σ : Mm} {a0 : Nat} {a1 : Int32} (ha0 : RT n a0 110) {res : Mm} (h : fX10_readClause_b18 a0 a1 σ = some res) : J X mX10_readClause 9 0 0 (n, none, res) 18 [(0, .ref a0), (1, .int a1)] [] n σ := by
  unfold fX10_readClause_b18 at h
  refine J_iload_n (z := 1) dX10_readClause_18 rfl rfl (q := 19) rfl ?_
  refine J_bipush (x := 112) dX10_readClause_19 (by decide) (q := 21) rfl ?_
  refine J_icmp_ne (tgt := 33) dX10_readClause_21 (by decide) (q := 24) rfl (fun c2 => ?_) (fun c2 => ?_)
  · rw [if_neg c2] at h
    refine J_pick [0, 1] rfl ?_
    exact tX10_readClause_b33 ha0 h
  · rw [if_pos c2] at h
    refine J_aload_n (z := 0) dX10_readClause_24 rfl rfl (q := 25) rfl ?_
    refine J_getI dX10_readClause_25 lRX10_245 ha0 rfl (q := 28) rfl ?_
    refine J_bipush (x := 12) dX10_readClause_28 (by decide) (q := 30) rfl ?_
    refine J_icmp_lt (tgt := 48) dX10_readClause_30 (by decide) (q := 33) rfl (fun c15 => ?_) (fun c15 => ?_)
    · rw [if_pos c15] at h
      refine J_pick [0, 1] rfl ?_
      exact tX10_readClause_b48 ha0 h
    · rw [if_neg c15] at h
      refine J_pick [0, 1] rfl ?_
      exact tX10_readClause_b33 ha0 h

def fX10_readClause (a0 : Nat) (σ : Mm) : Option (Mm) :=
  bnd2 (fX10_look a0 σ) fun vk1 sk1 => if vk1 = 115 then if (gI sk1 a0 32) = 0 then fX10_readClause_b48 a0 vk1 sk1 else fX10_readClause_b18 a0 vk1 sk1 else fX10_readClause_b18 a0 vk1 sk1
set_option maxRecDepth 20000 in
set_option maxHeartbeats 2000000 in
theorem tX10_readClause {X : XS} {n : Nat} {σ : Mm} {a0 : Nat} (ha0 : RT n a0 110) {res : Mm} (h : fX10_readClause a0 σ = some res) : MT X yX10_readClause mX10_readClause 9 0 0 [.ref a0] n σ (n, none, res) := by
  unfold fX10_readClause at h
  refine MT_of (by decide +kernel) rfl (fun h => by cases h) (Nat.le_of_ble_eq_true rfl) ?_
  show J X mX10_readClause 9 0 0 (n, none, res) 0 [(0, .ref a0)] [] n σ
  refine J_aload_n (z := 0) dX10_readClause_0 rfl rfl (q := 1) rfl ?_
  obtain ⟨vk1, sk1, hk1, h⟩ := bnd2S h
  refine J_cVi (as := []) dX10_readClause_1 mRX10_138 ha0 (tX10_look ha0 hk1) rfl (Nat.le_of_ble_eq_true rfl) (Nat.le_of_ble_eq_true rfl) (Nat.le_of_ble_eq_true rfl) (q := 4) rfl ?_
  intro bk1
  refine J_istore_n (lv' := [(1, .int vk1), (0, .ref a0)]) dX10_readClause_4 rfl (by decide) rfl (q := 5) rfl ?_
  refine J_iload_n (z := 0) dX10_readClause_5 rfl rfl (q := 6) rfl ?_
  refine J_bipush (x := 115) dX10_readClause_6 (by decide) (q := 8) rfl ?_
  refine J_icmp_ne (tgt := 18) dX10_readClause_8 (by decide) (q := 11) rfl (fun c1 => ?_) (fun c1 => ?_)
  · rw [if_neg c1] at h
    refine J_pick [1, 0] rfl ?_
    exact tX10_readClause_b18 ha0 h
  · rw [if_pos c1] at h
    refine J_aload_n (z := 1) dX10_readClause_11 rfl rfl (q := 12) rfl ?_
    refine J_getI dX10_readClause_12 lRX10_242 ha0 rfl (q := 15) rfl ?_
    refine J_if_eq (tgt := 48) dX10_readClause_15 (by decide) (q := 18) rfl (fun c16 => ?_) (fun c16 => ?_)
    · rw [if_pos c16] at h
      refine J_pick [1, 0] rfl ?_
      exact tX10_readClause_b48 ha0 h
    · rw [if_neg c16] at h
      refine J_pick [1, 0] rfl ?_
      exact tX10_readClause_b18 ha0 h

def fX10_isWhole_b65 (a0 : Nat) (a1 : Int32) (a3 : Int32) (z0 : Int32) (σ : Mm) : Option ((Int32 × Int32) ⊕ (Int32)) :=
  some (Sum.inl (z0, (a3 + 1)))
set_option maxRecDepth 20000 in
set_option maxHeartbeats 2000000 in
theorem tX10_isWhole_b65 {X : XS} {n : Nat} {σ : Mm} {F : Nat × Option Value × Mm} {a0 : Nat} {a1 : Int32} {a3 : Int32} {z0 : Int32} (ha0 : RT n a0 110) {res : (Int32 × Int32) ⊕ (Int32)} (h : fX10_isWhole_b65 a0 a1 a3 z0 σ = some res) (hc : ∀ (b2 : Int32) (b3 : Int32), res = .inl (b2, b3) → J X mX10_isWhole 1 0 0 F 36 [(0, .ref a0), (1, .int a1), (2, .int b2), (3, .int b3)] [] n σ) (he0 : ∀ (b2 : Int32), res = .inr b2 → J X mX10_isWhole 1 0 0 F 72 [(0, .ref a0), (1, .int a1), (2, .int b2)] [] n σ) : J X mX10_isWhole 1 0 0 F 65 [(0, .ref a0), (1, .int a1), (3, .int a3)] [.int z0] n σ := by
  unfold fX10_isWhole_b65 at h
  refine J_istore_n (lv' := [(2, .int z0), (0, .ref a0), (1, .int a1), (3, .int a3)]) dX10_isWhole_65 rfl (by decide) rfl (q := 66) rfl ?_
  refine J_iinc (z := 3) (y := (a3 + 1)) (lv' := [(3, .int (a3 + 1)), (2, .int z0), (0, .ref a0), (1, .int a1)]) dX10_isWhole_66 rfl rfl (by decide) rfl (q := 69) rfl ?_
  refine J_goto (tgt := 36) dX10_isWhole_69 (by decide) ?_
  have h := Option.some.inj h
  refine J_pick [2, 3, 1, 0] rfl ?_
  exact hc _ _ h.symm

def fX10_isWhole_b64 (a0 : Nat) (a1 : Int32) (a3 : Int32) (σ : Mm) : Option ((Int32 × Int32) ⊕ (Int32)) :=
  fX10_isWhole_b65 a0 a1 a3 0 σ
set_option maxRecDepth 20000 in
set_option maxHeartbeats 2000000 in
theorem tX10_isWhole_b64 {X : XS} {n : Nat} {σ : Mm} {F : Nat × Option Value × Mm} {a0 : Nat} {a1 : Int32} {a3 : Int32} (ha0 : RT n a0 110) {res : (Int32 × Int32) ⊕ (Int32)} (h : fX10_isWhole_b64 a0 a1 a3 σ = some res) (hc : ∀ (b2 : Int32) (b3 : Int32), res = .inl (b2, b3) → J X mX10_isWhole 1 0 0 F 36 [(0, .ref a0), (1, .int a1), (2, .int b2), (3, .int b3)] [] n σ) (he0 : ∀ (b2 : Int32), res = .inr b2 → J X mX10_isWhole 1 0 0 F 72 [(0, .ref a0), (1, .int a1), (2, .int b2)] [] n σ) : J X mX10_isWhole 1 0 0 F 64 [(0, .ref a0), (1, .int a1), (3, .int a3)] [] n σ := by
  unfold fX10_isWhole_b64 at h
  refine J_iconst (x := 0) dX10_isWhole_64 (by decide) (q := 65) rfl ?_
  refine J_pick [0, 1, 2] rfl ?_
  exact tX10_isWhole_b65 ha0 h hc he0

def fX10_isWhole_l36 (a0 : Nat) (a1 : Int32) (a2 : Int32) (a3 : Int32) (σ : Mm) : Option ((Int32 × Int32) ⊕ (Int32)) :=
  if (gI σ a0 29) ≤ a3 then some (Sum.inr a2) else if a2 = 0 then fX10_isWhole_b64 a0 a1 a3 σ else (gR σ a0 21).bind fun r7 => if ixB (4 * a3) (ln r7) = true then if a1 ≤ (gI σ r7 (Int32.toNatClampNeg (4 * a3))) then fX10_isWhole_b64 a0 a1 a3 σ else fX10_isWhole_b65 a0 a1 a3 1 σ else none
set_option maxRecDepth 20000 in
set_option maxHeartbeats 2000000 in
theorem tX10_isWhole_l36 {X : XS} {n : Nat} {σ : Mm} {F : Nat × Option Value × Mm} {a0 : Nat} {a1 : Int32} {a2 : Int32} {a3 : Int32} (ha0 : RT n a0 110) {res : (Int32 × Int32) ⊕ (Int32)} (h : fX10_isWhole_l36 a0 a1 a2 a3 σ = some res) (hc : ∀ (b2 : Int32) (b3 : Int32), res = .inl (b2, b3) → J X mX10_isWhole 1 0 0 F 36 [(0, .ref a0), (1, .int a1), (2, .int b2), (3, .int b3)] [] n σ) (he0 : ∀ (b2 : Int32), res = .inr b2 → J X mX10_isWhole 1 0 0 F 72 [(0, .ref a0), (1, .int a1), (2, .int b2)] [] n σ) : J X mX10_isWhole 1 0 0 F 36 [(0, .ref a0), (1, .int a1), (2, .int a2), (3, .int a3)] [] n σ := by
  unfold fX10_isWhole_l36 at h
  refine J_iload_n (z := 3) dX10_isWhole_36 rfl rfl (q := 37) rfl ?_
  refine J_aload_n (z := 0) dX10_isWhole_37 rfl rfl (q := 38) rfl ?_
  refine J_getI dX10_isWhole_38 lRX10_245 ha0 rfl (q := 41) rfl ?_
  refine J_icmp_ge (tgt := 72) dX10_isWhole_41 (by decide) (q := 44) rfl (fun c4 => ?_) (fun c4 => ?_)
  · rw [if_pos c4] at h
    have h := Option.some.inj h
    refine J_pick [0, 1, 2] rfl ?_
    exact he0 _ h.symm
  · rw [if_neg c4] at h
    refine J_iload_n (z := 2) dX10_isWhole_44 rfl rfl (q := 45) rfl ?_
    refine J_if_eq (tgt := 64) dX10_isWhole_45 (by decide) (q := 48) rfl (fun c5 => ?_) (fun c5 => ?_)
    · rw [if_pos c5] at h
      refine J_pick [0, 1, 3] rfl ?_
      exact tX10_isWhole_b64 ha0 h hc he0
    · rw [if_neg c5] at h
      refine J_aload_n (z := 0) dX10_isWhole_48 rfl rfl (q := 49) rfl ?_
      obtain ⟨r7, er7, h⟩ := bindS h
      refine J_getR dX10_isWhole_49 lRX10_46 ha0 rfl (by decide) er7 (q := 52) rfl (fun fr7 => ?_)
      refine J_iconst (x := 4) dX10_isWhole_52 (by decide) (q := 53) rfl ?_
      refine J_iload_n (z := 3) dX10_isWhole_53 rfl rfl (q := 54) rfl ?_
      refine J_imul dX10_isWhole_54  (q := 55) rfl ?_
      obtain ⟨g8, h⟩ := iteS h
      refine J_iald dX10_isWhole_55 fr7 (ixB_ok g8) (q := 56) rfl ?_
      refine J_iload_n (z := 1) dX10_isWhole_56 rfl rfl (q := 57) rfl ?_
      refine J_icmp_ge (tgt := 64) dX10_isWhole_57 (by decide) (q := 60) rfl (fun c8 => ?_) (fun c8 => ?_)
      · rw [if_pos c8] at h
        refine J_pick [0, 1, 3] rfl ?_
        exact tX10_isWhole_b64 ha0 h hc he0
      · rw [if_neg c8] at h
        refine J_iconst (x := 1) dX10_isWhole_60 (by decide) (q := 61) rfl ?_
        refine J_goto (tgt := 65) dX10_isWhole_61 (by decide) ?_
        refine J_pick [0, 1, 3] rfl ?_
        exact tX10_isWhole_b65 ha0 h hc he0

def fX10_isWhole_w36 (a0 : Nat) (a1 : Int32) (a2 : Int32) (a3 : Int32) (σ : Mm) : Option (Int32) :=
  wh (fun a : Int32 × Int32 => fX10_isWhole_l36 a0 a1 a.1 a.2 σ) BIG (a2, a3)
set_option maxRecDepth 20000 in
set_option maxHeartbeats 2000000 in
theorem tX10_isWhole_w36 {X : XS} {n : Nat} {σ : Mm} {F : Nat × Option Value × Mm} {a0 : Nat} {a1 : Int32} {a2 : Int32} {a3 : Int32} (ha0 : RT n a0 110) {res : Int32} (h : fX10_isWhole_w36 a0 a1 a2 a3 σ = some res) (he0 : ∀ (b2 : Int32), res = b2 → J X mX10_isWhole 1 0 0 F 72 [(0, .ref a0), (1, .int a1), (2, .int b2)] [] n σ) : J X mX10_isWhole 1 0 0 F 36 [(0, .ref a0), (1, .int a1), (2, .int a2), (3, .int a3)] [] n σ := by
  unfold fX10_isWhole_w36 at h
  refine wh_rule (P := fun a : Int32 × Int32 => J X mX10_isWhole 1 0 0 F 36 [(0, .ref a0), (1, .int a1), (2, .int a.1), (3, .int a.2)] [] n σ) (K := fun b => b = res) ?_ _ _ _ h rfl
  intro a
  refine ⟨fun a2 hb hP => ?_, fun b hb hK => ?_⟩
  · exact tX10_isWhole_l36 ha0 hb (fun _ _ e => by cases e; exact hP) (fun _ e => by cases e)
  · subst hK
    exact tX10_isWhole_l36 ha0 hb (fun _ _ e => by cases e) (fun v0 e => he0 v0 (Sum.inr.inj e))

def fX10_isWhole_b103 (a0 : Nat) (a1 : Int32) (a3 : Int32) (z0 : Int32) (σ : Mm) : Option ((Int32 × Int32) ⊕ (Int32)) :=
  some (Sum.inl (z0, (a3 + 1)))
set_option maxRecDepth 20000 in
set_option maxHeartbeats 2000000 in
theorem tX10_isWhole_b103 {X : XS} {n : Nat} {σ : Mm} {F : Nat × Option Value × Mm} {a0 : Nat} {a1 : Int32} {a3 : Int32} {z0 : Int32} (ha0 : RT n a0 110) {res : (Int32 × Int32) ⊕ (Int32)} (h : fX10_isWhole_b103 a0 a1 a3 z0 σ = some res) (hc : ∀ (b2 : Int32) (b3 : Int32), res = .inl (b2, b3) → J X mX10_isWhole 1 0 0 F 74 [(0, .ref a0), (1, .int a1), (2, .int b2), (3, .int b3)] [] n σ) (hr : ∀ (v : Int32), res = .inr v → F = (n, some (.int v), σ)) : J X mX10_isWhole 1 0 0 F 103 [(0, .ref a0), (1, .int a1), (3, .int a3)] [.int z0] n σ := by
  unfold fX10_isWhole_b103 at h
  refine J_istore_n (lv' := [(2, .int z0), (0, .ref a0), (1, .int a1), (3, .int a3)]) dX10_isWhole_103 rfl (by decide) rfl (q := 104) rfl ?_
  refine J_iinc (z := 3) (y := (a3 + 1)) (lv' := [(3, .int (a3 + 1)), (2, .int z0), (0, .ref a0), (1, .int a1)]) dX10_isWhole_104 rfl rfl (by decide) rfl (q := 107) rfl ?_
  refine J_goto (tgt := 74) dX10_isWhole_107 (by decide) ?_
  have h := Option.some.inj h
  refine J_pick [2, 3, 1, 0] rfl ?_
  exact hc _ _ h.symm

def fX10_isWhole_b102 (a0 : Nat) (a1 : Int32) (a3 : Int32) (σ : Mm) : Option ((Int32 × Int32) ⊕ (Int32)) :=
  fX10_isWhole_b103 a0 a1 a3 0 σ
set_option maxRecDepth 20000 in
set_option maxHeartbeats 2000000 in
theorem tX10_isWhole_b102 {X : XS} {n : Nat} {σ : Mm} {F : Nat × Option Value × Mm} {a0 : Nat} {a1 : Int32} {a3 : Int32} (ha0 : RT n a0 110) {res : (Int32 × Int32) ⊕ (Int32)} (h : fX10_isWhole_b102 a0 a1 a3 σ = some res) (hc : ∀ (b2 : Int32) (b3 : Int32), res = .inl (b2, b3) → J X mX10_isWhole 1 0 0 F 74 [(0, .ref a0), (1, .int a1), (2, .int b2), (3, .int b3)] [] n σ) (hr : ∀ (v : Int32), res = .inr v → F = (n, some (.int v), σ)) : J X mX10_isWhole 1 0 0 F 102 [(0, .ref a0), (1, .int a1), (3, .int a3)] [] n σ := by
  unfold fX10_isWhole_b102 at h
  refine J_iconst (x := 0) dX10_isWhole_102 (by decide) (q := 103) rfl ?_
  refine J_pick [0, 1, 2] rfl ?_
  exact tX10_isWhole_b103 ha0 h hc hr

def fX10_isWhole_l74 (a0 : Nat) (a1 : Int32) (a2 : Int32) (a3 : Int32) (σ : Mm) : Option ((Int32 × Int32) ⊕ (Int32)) :=
  if (gI σ a0 30) ≤ a3 then if zB a2 = true then some (Sum.inr a2) else none else if a2 = 0 then fX10_isWhole_b102 a0 a1 a3 σ else (gR σ a0 23).bind fun r14 => if ixB (4 * a3) (ln r14) = true then if a1 ≤ (gI σ r14 (Int32.toNatClampNeg (4 * a3))) then fX10_isWhole_b102 a0 a1 a3 σ else fX10_isWhole_b103 a0 a1 a3 1 σ else none
set_option maxRecDepth 20000 in
set_option maxHeartbeats 2000000 in
theorem tX10_isWhole_l74 {X : XS} {n : Nat} {σ : Mm} {F : Nat × Option Value × Mm} {a0 : Nat} {a1 : Int32} {a2 : Int32} {a3 : Int32} (ha0 : RT n a0 110) {res : (Int32 × Int32) ⊕ (Int32)} (h : fX10_isWhole_l74 a0 a1 a2 a3 σ = some res) (hc : ∀ (b2 : Int32) (b3 : Int32), res = .inl (b2, b3) → J X mX10_isWhole 1 0 0 F 74 [(0, .ref a0), (1, .int a1), (2, .int b2), (3, .int b3)] [] n σ) (hr : ∀ (v : Int32), res = .inr v → F = (n, some (.int v), σ)) : J X mX10_isWhole 1 0 0 F 74 [(0, .ref a0), (1, .int a1), (2, .int a2), (3, .int a3)] [] n σ := by
  unfold fX10_isWhole_l74 at h
  refine J_iload_n (z := 3) dX10_isWhole_74 rfl rfl (q := 75) rfl ?_
  refine J_aload_n (z := 0) dX10_isWhole_75 rfl rfl (q := 76) rfl ?_
  refine J_getI dX10_isWhole_76 lRX10_248 ha0 rfl (q := 79) rfl ?_
  refine J_icmp_ge (tgt := 110) dX10_isWhole_79 (by decide) (q := 82) rfl (fun c10 => ?_) (fun c10 => ?_)
  · rw [if_pos c10] at h
    refine J_iload_n (z := 2) dX10_isWhole_110 rfl rfl (q := 111) rfl ?_
    obtain ⟨g12, h⟩ := iteS h
    have h := Option.some.inj h
    exact J_ireturn dX10_isWhole_111 rfl (zB_nar g12) (hr _ h.symm)
  · rw [if_neg c10] at h
    refine J_iload_n (z := 2) dX10_isWhole_82 rfl rfl (q := 83) rfl ?_
    refine J_if_eq (tgt := 102) dX10_isWhole_83 (by decide) (q := 86) rfl (fun c12 => ?_) (fun c12 => ?_)
    · rw [if_pos c12] at h
      refine J_pick [0, 1, 3] rfl ?_
      exact tX10_isWhole_b102 ha0 h hc hr
    · rw [if_neg c12] at h
      refine J_aload_n (z := 0) dX10_isWhole_86 rfl rfl (q := 87) rfl ?_
      obtain ⟨r14, er14, h⟩ := bindS h
      refine J_getR dX10_isWhole_87 lRX10_52 ha0 rfl (by decide) er14 (q := 90) rfl (fun fr14 => ?_)
      refine J_iconst (x := 4) dX10_isWhole_90 (by decide) (q := 91) rfl ?_
      refine J_iload_n (z := 3) dX10_isWhole_91 rfl rfl (q := 92) rfl ?_
      refine J_imul dX10_isWhole_92  (q := 93) rfl ?_
      obtain ⟨g15, h⟩ := iteS h
      refine J_iald dX10_isWhole_93 fr14 (ixB_ok g15) (q := 94) rfl ?_
      refine J_iload_n (z := 1) dX10_isWhole_94 rfl rfl (q := 95) rfl ?_
      refine J_icmp_ge (tgt := 102) dX10_isWhole_95 (by decide) (q := 98) rfl (fun c15 => ?_) (fun c15 => ?_)
      · rw [if_pos c15] at h
        refine J_pick [0, 1, 3] rfl ?_
        exact tX10_isWhole_b102 ha0 h hc hr
      · rw [if_neg c15] at h
        refine J_iconst (x := 1) dX10_isWhole_98 (by decide) (q := 99) rfl ?_
        refine J_goto (tgt := 103) dX10_isWhole_99 (by decide) ?_
        refine J_pick [0, 1, 3] rfl ?_
        exact tX10_isWhole_b103 ha0 h hc hr

def fX10_isWhole_w74 (a0 : Nat) (a1 : Int32) (a2 : Int32) (a3 : Int32) (σ : Mm) : Option (Int32) :=
  wh (fun a : Int32 × Int32 => fX10_isWhole_l74 a0 a1 a.1 a.2 σ) BIG (a2, a3)
set_option maxRecDepth 20000 in
set_option maxHeartbeats 2000000 in
theorem tX10_isWhole_w74 {X : XS} {n : Nat} {σ : Mm} {F : Nat × Option Value × Mm} {a0 : Nat} {a1 : Int32} {a2 : Int32} {a3 : Int32} (ha0 : RT n a0 110) {res : Int32} (h : fX10_isWhole_w74 a0 a1 a2 a3 σ = some res) (hr : ∀ (v : Int32), res = v → F = (n, some (.int v), σ)) : J X mX10_isWhole 1 0 0 F 74 [(0, .ref a0), (1, .int a1), (2, .int a2), (3, .int a3)] [] n σ := by
  unfold fX10_isWhole_w74 at h
  refine wh_rule (P := fun a : Int32 × Int32 => J X mX10_isWhole 1 0 0 F 74 [(0, .ref a0), (1, .int a1), (2, .int a.1), (3, .int a.2)] [] n σ) (K := fun b => b = res) ?_ _ _ _ h rfl
  intro a
  refine ⟨fun a2 hb hP => ?_, fun b hb hK => ?_⟩
  · exact tX10_isWhole_l74 ha0 hb (fun _ _ e => by cases e; exact hP) (fun _ e => by cases e)
  · subst hK
    exact tX10_isWhole_l74 ha0 hb (fun _ _ e => by cases e) (fun v0 e => hr v0 (Sum.inr.inj e))

def fX10_isWhole_b33 (a0 : Nat) (a1 : Int32) (z0 : Int32) (σ : Mm) : Option (Int32) :=
  (fX10_isWhole_w36 a0 a1 z0 0 σ).bind (fun o10 => (fun xo10_2 => (fX10_isWhole_w74 a0 a1 xo10_2 0 σ).bind (fun o17 => some o17)) o10)
set_option maxRecDepth 20000 in
set_option maxHeartbeats 2000000 in
theorem tX10_isWhole_b33 {X : XS} {n : Nat} {σ : Mm} {a0 : Nat} {a1 : Int32} {z0 : Int32} (ha0 : RT n a0 110) {res : Int32} (h : fX10_isWhole_b33 a0 a1 z0 σ = some res) : J X mX10_isWhole 1 0 0 (n, some (.int res), σ) 33 [(0, .ref a0), (1, .int a1)] [.int z0] n σ := by
  unfold fX10_isWhole_b33 at h
  refine J_istore_n (lv' := [(2, .int z0), (0, .ref a0), (1, .int a1)]) dX10_isWhole_33 rfl (by decide) rfl (q := 34) rfl ?_
  refine J_iconst (x := 0) dX10_isWhole_34 (by decide) (q := 35) rfl ?_
  refine J_istore_n (lv' := [(3, .int 0), (2, .int z0), (0, .ref a0), (1, .int a1)]) dX10_isWhole_35 rfl (by decide) rfl (q := 36) rfl ?_
  obtain ⟨o10, hlo10, h⟩ := bindS h
  refine J_pick [2, 3, 1, 0] rfl ?_
  refine tX10_isWhole_w36 ha0 hlo10 ?_
  · intro xo10_2 qo10
    rw [qo10] at h
    try dsimp only [Sum.elim_inl, Sum.elim_inr] at h
    refine J_iconst (x := 0) dX10_isWhole_72 (by decide) (q := 73) rfl ?_
    refine J_istore_n (lv' := [(3, .int 0), (0, .ref a0), (1, .int a1), (2, .int xo10_2)]) dX10_isWhole_73 rfl (by decide) rfl (q := 74) rfl ?_
    obtain ⟨o17, hlo17, h⟩ := bindS h
    refine J_pick [1, 2, 3, 0] rfl ?_
    refine tX10_isWhole_w74 ha0 hlo17 ?_
    · intro vo17 qo17
      rw [qo17] at h
      try dsimp only [Sum.elim_inl, Sum.elim_inr] at h
      have h := Option.some.inj h
      subst h
      rfl

def fX10_isWhole_b32 (a0 : Nat) (a1 : Int32) (σ : Mm) : Option (Int32) :=
  fX10_isWhole_b33 a0 a1 0 σ
set_option maxRecDepth 20000 in
set_option maxHeartbeats 2000000 in
theorem tX10_isWhole_b32 {X : XS} {n : Nat} {σ : Mm} {a0 : Nat} {a1 : Int32} (ha0 : RT n a0 110) {res : Int32} (h : fX10_isWhole_b32 a0 a1 σ = some res) : J X mX10_isWhole 1 0 0 (n, some (.int res), σ) 32 [(0, .ref a0), (1, .int a1)] [] n σ := by
  unfold fX10_isWhole_b32 at h
  refine J_iconst (x := 0) dX10_isWhole_32 (by decide) (q := 33) rfl ?_
  refine J_pick [0, 1] rfl ?_
  exact tX10_isWhole_b33 ha0 h

def fX10_isWhole (a0 : Nat) (σ : Mm) : Option (Int32) :=
  (gR σ a0 19).bind fun r1 => if ixB 0 (ln r1) = true then if ixB 1 (ln r1) = true then if (gI σ a0 29) ≤ 0 then fX10_isWhole_b32 a0 ((gI σ r1 (Int32.toNatClampNeg 0)) * (gI σ r1 (Int32.toNatClampNeg 1))) σ else if (gI σ a0 30) ≤ 0 then fX10_isWhole_b32 a0 ((gI σ r1 (Int32.toNatClampNeg 0)) * (gI σ r1 (Int32.toNatClampNeg 1))) σ else fX10_isWhole_b33 a0 ((gI σ r1 (Int32.toNatClampNeg 0)) * (gI σ r1 (Int32.toNatClampNeg 1))) 1 σ else none else none
set_option maxRecDepth 20000 in
set_option maxHeartbeats 2000000 in
theorem tX10_isWhole {X : XS} {n : Nat} {σ : Mm} {a0 : Nat} (ha0 : RT n a0 110) {res : Int32} (h : fX10_isWhole a0 σ = some res) : MT X yX10_isWhole mX10_isWhole 1 0 0 [.ref a0] n σ (n, some (.int res), σ) := by
  unfold fX10_isWhole at h
  refine MT_of (by decide +kernel) rfl (fun h => by cases h) (Nat.le_of_ble_eq_true rfl) ?_
  show J X mX10_isWhole 1 0 0 (n, some (.int res), σ) 0 [(0, .ref a0)] [] n σ
  refine J_aload_n (z := 0) dX10_isWhole_0 rfl rfl (q := 1) rfl ?_
  obtain ⟨r1, er1, h⟩ := bindS h
  refine J_getR dX10_isWhole_1 lRX10_40 ha0 rfl (by decide) er1 (q := 4) rfl (fun fr1 => ?_)
  refine J_iconst (x := 0) dX10_isWhole_4 (by decide) (q := 5) rfl ?_
  obtain ⟨g2, h⟩ := iteS h
  refine J_iald dX10_isWhole_5 fr1 (ixB_ok g2) (q := 6) rfl ?_
  refine J_aload_n (z := 0) dX10_isWhole_6 rfl rfl (q := 7) rfl ?_
  refine J_getR dX10_isWhole_7 lRX10_40 ha0 rfl (by decide) er1 (q := 10) rfl (fun _ => ?_)
  refine J_iconst (x := 1) dX10_isWhole_10 (by decide) (q := 11) rfl ?_
  obtain ⟨g3, h⟩ := iteS h
  refine J_iald dX10_isWhole_11 fr1 (ixB_ok g3) (q := 12) rfl ?_
  refine J_imul dX10_isWhole_12  (q := 13) rfl ?_
  refine J_istore_n (lv' := [(1, .int ((gI σ r1 (Int32.toNatClampNeg 0)) * (gI σ r1 (Int32.toNatClampNeg 1)))), (0, .ref a0)]) dX10_isWhole_13 rfl (by decide) rfl (q := 14) rfl ?_
  refine J_aload_n (z := 1) dX10_isWhole_14 rfl rfl (q := 15) rfl ?_
  refine J_getI dX10_isWhole_15 lRX10_245 ha0 rfl (q := 18) rfl ?_
  refine J_if_le (tgt := 32) dX10_isWhole_18 (by decide) (q := 21) rfl (fun c3 => ?_) (fun c3 => ?_)
  · rw [if_pos c3] at h
    refine J_pick [1, 0] rfl ?_
    exact tX10_isWhole_b32 ha0 h
  · rw [if_neg c3] at h
    refine J_aload_n (z := 1) dX10_isWhole_21 rfl rfl (q := 22) rfl ?_
    refine J_getI dX10_isWhole_22 lRX10_248 ha0 rfl (q := 25) rfl ?_
    refine J_if_le (tgt := 32) dX10_isWhole_25 (by decide) (q := 28) rfl (fun c17 => ?_) (fun c17 => ?_)
    · rw [if_pos c17] at h
      refine J_pick [1, 0] rfl ?_
      exact tX10_isWhole_b32 ha0 h
    · rw [if_neg c17] at h
      refine J_iconst (x := 1) dX10_isWhole_28 (by decide) (q := 29) rfl ?_
      refine J_goto (tgt := 33) dX10_isWhole_29 (by decide) ?_
      refine J_pick [1, 0] rfl ?_
      exact tX10_isWhole_b33 ha0 h

def fX10_readHall_l30 (a0 : Nat) (a1 : Int32) (σ : Mm) : Option ((Int32 × Mm) ⊕ (Mm)) :=
  if 5 ≤ a1 then some (Sum.inr σ) else (gR σ a0 19).bind fun r4 => (fX10_usual 115 a1 σ).bind fun vk5 => if ixB a1 (ln r4) = true then some (Sum.inl ((a1 + 1), (sI σ r4 (Int32.toNatClampNeg a1) vk5))) else none
set_option maxRecDepth 20000 in
set_option maxHeartbeats 2000000 in
theorem tX10_readHall_l30 {X : XS} {n : Nat} {σ : Mm} {F : Nat × Option Value × Mm} {a0 : Nat} {a1 : Int32} (ha0 : RT n a0 110) {res : (Int32 × Mm) ⊕ (Mm)} (h : fX10_readHall_l30 a0 a1 σ = some res) (hc : ∀ (b1 : Int32) (s : Mm), res = .inl (b1, s) → J X mX10_readHall 10 0 0 F 30 [(0, .ref a0), (1, .int b1)] [] n s) (he0 : ∀  (s : Mm), res = .inr s → J X mX10_readHall 10 0 0 F 53 [(0, .ref a0)] [] n s) : J X mX10_readHall 10 0 0 F 30 [(0, .ref a0), (1, .int a1)] [] n σ := by
  unfold fX10_readHall_l30 at h
  refine J_iload_n (z := 1) dX10_readHall_30 rfl rfl (q := 31) rfl ?_
  refine J_iconst (x := 5) dX10_readHall_31 (by decide) (q := 32) rfl ?_
  refine J_icmp_ge (tgt := 53) dX10_readHall_32 (by decide) (q := 35) rfl (fun c2 => ?_) (fun c2 => ?_)
  · rw [if_pos c2] at h
    have h := Option.some.inj h
    refine J_pick [0] rfl ?_
    exact he0 _ h.symm
  · rw [if_neg c2] at h
    refine J_aload_n (z := 0) dX10_readHall_35 rfl rfl (q := 36) rfl ?_
    obtain ⟨r4, er4, h⟩ := bindS h
    refine J_getR dX10_readHall_36 lRX10_40 ha0 rfl (by decide) er4 (q := 39) rfl (fun fr4 => ?_)
    refine J_iload_n (z := 1) dX10_readHall_39 rfl rfl (q := 40) rfl ?_
    refine J_bipush (x := 115) dX10_readHall_40 (by decide) (q := 42) rfl ?_
    refine J_iload_n (z := 1) dX10_readHall_42 rfl rfl (q := 43) rfl ?_
    obtain ⟨vk5, hk5, h⟩ := bindS h
    refine J_cSi (as := [.int 115, .int a1]) dX10_readHall_43 mRX10_221 (tX10_usual  hk5) rfl (Nat.le_of_ble_eq_true rfl) (Nat.le_of_ble_eq_true rfl) (Nat.le_of_ble_eq_true rfl) (q := 46) rfl ?_
    intro bk5
    obtain ⟨g6, h⟩ := iteS h
    refine J_iast dX10_readHall_46 fr4 (ixB_ok g6) (q := 47) rfl ?_
    refine J_iinc (z := 1) (y := (a1 + 1)) (lv' := [(1, .int (a1 + 1)), (0, .ref a0)]) dX10_readHall_47 rfl rfl (by decide) rfl (q := 50) rfl ?_
    refine J_goto (tgt := 30) dX10_readHall_50 (by decide) ?_
    have h := Option.some.inj h
    refine J_pick [1, 0] rfl ?_
    exact hc _ _ h.symm

def fX10_readHall_w30 (a0 : Nat) (a1 : Int32) (σ : Mm) : Option (Mm) :=
  wh (fun a : Int32 × Mm => fX10_readHall_l30 a0 a.1 a.2) BIG (a1, σ)
set_option maxRecDepth 20000 in
set_option maxHeartbeats 2000000 in
theorem tX10_readHall_w30 {X : XS} {n : Nat} {σ : Mm} {F : Nat × Option Value × Mm} {a0 : Nat} {a1 : Int32} (ha0 : RT n a0 110) {res : Mm} (h : fX10_readHall_w30 a0 a1 σ = some res) (he0 : ∀  (s : Mm), res = s → J X mX10_readHall 10 0 0 F 53 [(0, .ref a0)] [] n s) : J X mX10_readHall 10 0 0 F 30 [(0, .ref a0), (1, .int a1)] [] n σ := by
  unfold fX10_readHall_w30 at h
  refine wh_rule (P := fun a : Int32 × Mm => J X mX10_readHall 10 0 0 F 30 [(0, .ref a0), (1, .int a.1)] [] n a.2) (K := fun b => b = res) ?_ _ _ _ h rfl
  intro a
  refine ⟨fun a2 hb hP => ?_, fun b hb hK => ?_⟩
  · exact tX10_readHall_l30 ha0 hb (fun _ _ e => by cases e; exact hP) (fun _ e => by cases e)
  · subst hK
    exact tX10_readHall_l30 ha0 hb (fun _ _ e => by cases e) (fun v0 e => he0 v0 (Sum.inr.inj e))

def fX10_readHall_b93 (a0 : Nat) (z0 : Int32) (σ : Mm) : Option ((Int32 × Mm) ⊕ (Mm)) :=
  if z0 = 0 then some (Sum.inl (z0, σ)) else some (Sum.inl (z0, (sI σ a0 10 ((gI σ a0 10) + 1))))
set_option maxRecDepth 20000 in
set_option maxHeartbeats 2000000 in
theorem tX10_readHall_b93 {X : XS} {n : Nat} {σ : Mm} {F : Nat × Option Value × Mm} {a0 : Nat} {z0 : Int32} (ha0 : RT n a0 110) {res : (Int32 × Mm) ⊕ (Mm)} (h : fX10_readHall_b93 a0 z0 σ = some res) (hc : ∀ (b1 : Int32) (s : Mm), res = .inl (b1, s) → J X mX10_readHall 10 0 0 F 55 [(0, .ref a0), (1, .int b1)] [] n s) (he0 : ∀  (s : Mm), res = .inr s → J X mX10_readHall 10 0 0 F 111 [(0, .ref a0)] [] n s) : J X mX10_readHall 10 0 0 F 93 [(0, .ref a0)] [.int z0] n σ := by
  unfold fX10_readHall_b93 at h
  refine J_istore_n (lv' := [(1, .int z0), (0, .ref a0)]) dX10_readHall_93 rfl (by decide) rfl (q := 94) rfl ?_
  refine J_iload_n (z := 0) dX10_readHall_94 rfl rfl (q := 95) rfl ?_
  refine J_if_eq (tgt := 55) dX10_readHall_95 (by decide) (q := 98) rfl (fun c11 => ?_) (fun c11 => ?_)
  · rw [if_pos c11] at h
    have h := Option.some.inj h
    refine J_pick [1, 0] rfl ?_
    exact hc _ _ h.symm
  · rw [if_neg c11] at h
    refine J_aload_n (z := 1) dX10_readHall_98 rfl rfl (q := 99) rfl ?_
    refine J_dup dX10_readHall_99 rfl (q := 100) rfl ?_
    refine J_getI dX10_readHall_100 lRX10_119 ha0 rfl (q := 103) rfl ?_
    refine J_iconst (x := 1) dX10_readHall_103 (by decide) (q := 104) rfl ?_
    refine J_iadd dX10_readHall_104  (q := 105) rfl ?_
    refine J_putI dX10_readHall_105 lRX10_119 (fun h => by cases h) ha0 rfl (q := 108) rfl ?_
    refine J_goto (tgt := 55) dX10_readHall_108 (by decide) ?_
    have h := Option.some.inj h
    refine J_pick [1, 0] rfl ?_
    exact hc _ _ h.symm

def fX10_readHall_b92 (a0 : Nat) (σ : Mm) : Option ((Int32 × Mm) ⊕ (Mm)) :=
  fX10_readHall_b93 a0 0 σ
set_option maxRecDepth 20000 in
set_option maxHeartbeats 2000000 in
theorem tX10_readHall_b92 {X : XS} {n : Nat} {σ : Mm} {F : Nat × Option Value × Mm} {a0 : Nat} (ha0 : RT n a0 110) {res : (Int32 × Mm) ⊕ (Mm)} (h : fX10_readHall_b92 a0 σ = some res) (hc : ∀ (b1 : Int32) (s : Mm), res = .inl (b1, s) → J X mX10_readHall 10 0 0 F 55 [(0, .ref a0), (1, .int b1)] [] n s) (he0 : ∀  (s : Mm), res = .inr s → J X mX10_readHall 10 0 0 F 111 [(0, .ref a0)] [] n s) : J X mX10_readHall 10 0 0 F 92 [(0, .ref a0)] [] n σ := by
  unfold fX10_readHall_b92 at h
  refine J_iconst (x := 0) dX10_readHall_92 (by decide) (q := 93) rfl ?_
  refine J_pick [0] rfl ?_
  exact tX10_readHall_b93 ha0 h hc he0

def fX10_readHall_l55 (a0 : Nat) (a1 : Int32) (σ : Mm) : Option ((Int32 × Mm) ⊕ (Mm)) :=
  if a1 = 0 then some (Sum.inr σ) else if (gI σ a0 11) = (-1) then (fX10_readClause a0 σ).bind fun sk10 => if (gI sk10 a0 11) = (-1) then bnd2 (fX10_look a0 sk10) fun vk13 sk13 => if vk13 = 59 then fX10_readHall_b93 a0 1 sk13 else fX10_readHall_b92 a0 sk13 else fX10_readHall_b92 a0 sk10 else some (Sum.inr σ)
set_option maxRecDepth 20000 in
set_option maxHeartbeats 2000000 in
theorem tX10_readHall_l55 {X : XS} {n : Nat} {σ : Mm} {F : Nat × Option Value × Mm} {a0 : Nat} {a1 : Int32} (ha0 : RT n a0 110) {res : (Int32 × Mm) ⊕ (Mm)} (h : fX10_readHall_l55 a0 a1 σ = some res) (hc : ∀ (b1 : Int32) (s : Mm), res = .inl (b1, s) → J X mX10_readHall 10 0 0 F 55 [(0, .ref a0), (1, .int b1)] [] n s) (he0 : ∀  (s : Mm), res = .inr s → J X mX10_readHall 10 0 0 F 111 [(0, .ref a0)] [] n s) : J X mX10_readHall 10 0 0 F 55 [(0, .ref a0), (1, .int a1)] [] n σ := by
  unfold fX10_readHall_l55 at h
  refine J_iload_n (z := 1) dX10_readHall_55 rfl rfl (q := 56) rfl ?_
  refine J_if_eq (tgt := 111) dX10_readHall_56 (by decide) (q := 59) rfl (fun c7 => ?_) (fun c7 => ?_)
  · rw [if_pos c7] at h
    have h := Option.some.inj h
    refine J_pick [0] rfl ?_
    exact he0 _ h.symm
  · rw [if_neg c7] at h
    refine J_aload_n (z := 0) dX10_readHall_59 rfl rfl (q := 60) rfl ?_
    refine J_getI dX10_readHall_60 lRX10_128 ha0 rfl (q := 63) rfl ?_
    refine J_iconst (x := (-1)) dX10_readHall_63 (by decide) (q := 64) rfl ?_
    refine J_icmp_ne (tgt := 111) dX10_readHall_64 (by decide) (q := 67) rfl (fun c8 => ?_) (fun c8 => ?_)
    · rw [if_neg c8] at h
      have h := Option.some.inj h
      refine J_pick [0] rfl ?_
      exact he0 _ h.symm
    · rw [if_pos c8] at h
      refine J_aload_n (z := 0) dX10_readHall_67 rfl rfl (q := 68) rfl ?_
      obtain ⟨sk10, hk10, h⟩ := bindS h
      refine J_cVv (as := []) dX10_readHall_68 mRX10_261 ha0 (tX10_readClause ha0 hk10) rfl (Nat.le_of_ble_eq_true rfl) (Nat.le_of_ble_eq_true rfl) (Nat.le_of_ble_eq_true rfl) (q := 71) rfl ?_
      refine J_aload_n (z := 0) dX10_readHall_71 rfl rfl (q := 72) rfl ?_
      refine J_getI dX10_readHall_72 lRX10_128 ha0 rfl (q := 75) rfl ?_
      refine J_iconst (x := (-1)) dX10_readHall_75 (by decide) (q := 76) rfl ?_
      refine J_icmp_ne (tgt := 92) dX10_readHall_76 (by decide) (q := 79) rfl (fun c10 => ?_) (fun c10 => ?_)
      · rw [if_neg c10] at h
        refine J_pick [0] rfl ?_
        exact tX10_readHall_b92 ha0 h hc he0
      · rw [if_pos c10] at h
        refine J_aload_n (z := 0) dX10_readHall_79 rfl rfl (q := 80) rfl ?_
        obtain ⟨vk13, sk13, hk13, h⟩ := bnd2S h
        refine J_cVi (as := []) dX10_readHall_80 mRX10_138 ha0 (tX10_look ha0 hk13) rfl (Nat.le_of_ble_eq_true rfl) (Nat.le_of_ble_eq_true rfl) (Nat.le_of_ble_eq_true rfl) (q := 83) rfl ?_
        intro bk13
        refine J_bipush (x := 59) dX10_readHall_83 (by decide) (q := 85) rfl ?_
        refine J_icmp_ne (tgt := 92) dX10_readHall_85 (by decide) (q := 88) rfl (fun c13 => ?_) (fun c13 => ?_)
        · rw [if_neg c13] at h
          refine J_pick [0] rfl ?_
          exact tX10_readHall_b92 ha0 h hc he0
        · rw [if_pos c13] at h
          refine J_iconst (x := 1) dX10_readHall_88 (by decide) (q := 89) rfl ?_
          refine J_goto (tgt := 93) dX10_readHall_89 (by decide) ?_
          refine J_pick [0] rfl ?_
          exact tX10_readHall_b93 ha0 h hc he0

def fX10_readHall_w55 (a0 : Nat) (a1 : Int32) (σ : Mm) : Option (Mm) :=
  wh (fun a : Int32 × Mm => fX10_readHall_l55 a0 a.1 a.2) BIG (a1, σ)
set_option maxRecDepth 20000 in
set_option maxHeartbeats 2000000 in
theorem tX10_readHall_w55 {X : XS} {n : Nat} {σ : Mm} {F : Nat × Option Value × Mm} {a0 : Nat} {a1 : Int32} (ha0 : RT n a0 110) {res : Mm} (h : fX10_readHall_w55 a0 a1 σ = some res) (he0 : ∀  (s : Mm), res = s → J X mX10_readHall 10 0 0 F 111 [(0, .ref a0)] [] n s) : J X mX10_readHall 10 0 0 F 55 [(0, .ref a0), (1, .int a1)] [] n σ := by
  unfold fX10_readHall_w55 at h
  refine wh_rule (P := fun a : Int32 × Mm => J X mX10_readHall 10 0 0 F 55 [(0, .ref a0), (1, .int a.1)] [] n a.2) (K := fun b => b = res) ?_ _ _ _ h rfl
  intro a
  refine ⟨fun a2 hb hP => ?_, fun b hb hK => ?_⟩
  · exact tX10_readHall_l55 ha0 hb (fun _ _ e => by cases e; exact hP) (fun _ e => by cases e)
  · subst hK
    exact tX10_readHall_l55 ha0 hb (fun _ _ e => by cases e) (fun v0 e => he0 v0 (Sum.inr.inj e))

def fX10_readHall_b134 (a0 : Nat) (σ : Mm) : Option (Mm) :=
  bnd2 (fX10_fails a0 σ) fun vk19 sk19 => some sk19
set_option maxRecDepth 20000 in
set_option maxHeartbeats 2000000 in
theorem tX10_readHall_b134 {X : XS} {n : Nat} {σ : Mm} {a0 : Nat} (ha0 : RT n a0 110) {res : Mm} (h : fX10_readHall_b134 a0 σ = some res) : J X mX10_readHall 10 0 0 (n, none, res) 134 [(0, .ref a0)] [] n σ := by
  unfold fX10_readHall_b134 at h
  refine J_aload_n (z := 0) dX10_readHall_134 rfl rfl (q := 135) rfl ?_
  obtain ⟨vk19, sk19, hk19, h⟩ := bnd2S h
  refine J_cVi (as := []) dX10_readHall_135 mRX10_134 ha0 (tX10_fails ha0 hk19) rfl (Nat.le_of_ble_eq_true rfl) (Nat.le_of_ble_eq_true rfl) (Nat.le_of_ble_eq_true rfl) (q := 138) rfl ?_
  intro bk19
  refine J_pop dX10_readHall_138 rfl (q := 139) rfl ?_
  have h := Option.some.inj h
  subst h
  exact J_return dX10_readHall_139 rfl rfl

def fX10_readHall_b111 (a0 : Nat) (σ : Mm) : Option (Mm) :=
  if (gI σ a0 11) = (-1) then bnd2 (fX10_look a0 σ) fun vk17 sk17 => if vk17 = (-1) then (fX10_isWhole a0 sk17).bind fun vk20 => if vk20 = 0 then fX10_readHall_b134 a0 sk17 else some sk17 else fX10_readHall_b134 a0 sk17 else some σ
set_option maxRecDepth 20000 in
set_option maxHeartbeats 2000000 in
theorem tX10_readHall_b111 {X : XS} {n : Nat} {σ : Mm} {a0 : Nat} (ha0 : RT n a0 110) {res : Mm} (h : fX10_readHall_b111 a0 σ = some res) : J X mX10_readHall 10 0 0 (n, none, res) 111 [(0, .ref a0)] [] n σ := by
  unfold fX10_readHall_b111 at h
  refine J_aload_n (z := 0) dX10_readHall_111 rfl rfl (q := 112) rfl ?_
  refine J_getI dX10_readHall_112 lRX10_128 ha0 rfl (q := 115) rfl ?_
  refine J_iconst (x := (-1)) dX10_readHall_115 (by decide) (q := 116) rfl ?_
  refine J_icmp_ne (tgt := 139) dX10_readHall_116 (by decide) (q := 119) rfl (fun c15 => ?_) (fun c15 => ?_)
  · rw [if_neg c15] at h
    have h := Option.some.inj h
    subst h
    exact J_return dX10_readHall_139 rfl rfl
  · rw [if_pos c15] at h
    refine J_aload_n (z := 0) dX10_readHall_119 rfl rfl (q := 120) rfl ?_
    obtain ⟨vk17, sk17, hk17, h⟩ := bnd2S h
    refine J_cVi (as := []) dX10_readHall_120 mRX10_138 ha0 (tX10_look ha0 hk17) rfl (Nat.le_of_ble_eq_true rfl) (Nat.le_of_ble_eq_true rfl) (Nat.le_of_ble_eq_true rfl) (q := 123) rfl ?_
    intro bk17
    refine J_iconst (x := (-1)) dX10_readHall_123 (by decide) (q := 124) rfl ?_
    refine J_icmp_ne (tgt := 134) dX10_readHall_124 (by decide) (q := 127) rfl (fun c17 => ?_) (fun c17 => ?_)
    · rw [if_neg c17] at h
      refine J_pick [0] rfl ?_
      exact tX10_readHall_b134 ha0 h
    · rw [if_pos c17] at h
      refine J_aload_n (z := 0) dX10_readHall_127 rfl rfl (q := 128) rfl ?_
      obtain ⟨vk20, hk20, h⟩ := bindS h
      refine J_cVi (as := []) dX10_readHall_128 mRX10_264 ha0 (tX10_isWhole ha0 hk20) rfl (Nat.le_of_ble_eq_true rfl) (Nat.le_of_ble_eq_true rfl) (Nat.le_of_ble_eq_true rfl) (q := 131) rfl ?_
      intro bk20
      refine J_if_ne (tgt := 139) dX10_readHall_131 (by decide) (q := 134) rfl (fun c20 => ?_) (fun c20 => ?_)
      · rw [if_neg c20] at h
        have h := Option.some.inj h
        subst h
        exact J_return dX10_readHall_139 rfl rfl
      · rw [if_pos c20] at h
        refine J_pick [0] rfl ?_
        exact tX10_readHall_b134 ha0 h

def fX10_readHall (a0 : Nat) (σ : Mm) : Option (Mm) :=
  (gR σ a0 1).bind fun r1 => (fX10_starts a0 r1 0 (gI σ a0 6) σ).bind fun sk2 => (fX10_readHall_w30 a0 0 (sI (sI (sI sk2 a0 29 0) a0 30 0) a0 32 0)).bind (fun o7 => (fun so7 => (fX10_readHall_w55 a0 1 so7).bind (fun o15 => (fun so15 => fX10_readHall_b111 a0 so15) o15)) o7)
set_option maxRecDepth 20000 in
set_option maxHeartbeats 2000000 in
theorem tX10_readHall {X : XS} {n : Nat} {σ : Mm} {a0 : Nat} (ha0 : RT n a0 110) {res : Mm} (h : fX10_readHall a0 σ = some res) : MT X yX10_readHall mX10_readHall 10 0 0 [.ref a0] n σ (n, none, res) := by
  unfold fX10_readHall at h
  refine MT_of (by decide +kernel) rfl (fun h => by cases h) (Nat.le_of_ble_eq_true rfl) ?_
  show J X mX10_readHall 10 0 0 (n, none, res) 0 [(0, .ref a0)] [] n σ
  refine J_aload_n (z := 0) dX10_readHall_0 rfl rfl (q := 1) rfl ?_
  refine J_aload_n (z := 0) dX10_readHall_1 rfl rfl (q := 2) rfl ?_
  obtain ⟨r1, er1, h⟩ := bindS h
  refine J_getR dX10_readHall_2 lRX10_9 ha0 rfl (by decide) er1 (q := 5) rfl (fun fr1 => ?_)
  refine J_iconst (x := 0) dX10_readHall_5 (by decide) (q := 6) rfl ?_
  refine J_aload_n (z := 0) dX10_readHall_6 rfl rfl (q := 7) rfl ?_
  refine J_getI dX10_readHall_7 lRX10_109 ha0 rfl (q := 10) rfl ?_
  obtain ⟨sk2, hk2, h⟩ := bindS h
  refine J_cVv (as := [.ref r1, .int 0, .int (gI σ a0 6)]) dX10_readHall_10 mRX10_207 ha0 (tX10_starts ha0 fr1 hk2) rfl (Nat.le_of_ble_eq_true rfl) (Nat.le_of_ble_eq_true rfl) (Nat.le_of_ble_eq_true rfl) (q := 13) rfl ?_
  refine J_aload_n (z := 0) dX10_readHall_13 rfl rfl (q := 14) rfl ?_
  refine J_iconst (x := 0) dX10_readHall_14 (by decide) (q := 15) rfl ?_
  refine J_putI dX10_readHall_15 lRX10_245 (fun h => by cases h) ha0 rfl (q := 18) rfl ?_
  refine J_aload_n (z := 0) dX10_readHall_18 rfl rfl (q := 19) rfl ?_
  refine J_iconst (x := 0) dX10_readHall_19 (by decide) (q := 20) rfl ?_
  refine J_putI dX10_readHall_20 lRX10_248 (fun h => by cases h) ha0 rfl (q := 23) rfl ?_
  refine J_aload_n (z := 0) dX10_readHall_23 rfl rfl (q := 24) rfl ?_
  refine J_iconst (x := 0) dX10_readHall_24 (by decide) (q := 25) rfl ?_
  refine J_putZ dX10_readHall_25 lRX10_242 (fun h => by cases h) ha0 rfl (by decide) (by decide) (q := 28) rfl ?_
  refine J_iconst (x := 0) dX10_readHall_28 (by decide) (q := 29) rfl ?_
  refine J_istore_n (lv' := [(1, .int 0), (0, .ref a0)]) dX10_readHall_29 rfl (by decide) rfl (q := 30) rfl ?_
  obtain ⟨o7, hlo7, h⟩ := bindS h
  refine J_pick [1, 0] rfl ?_
  refine tX10_readHall_w30 ha0 hlo7 ?_
  · intro so7 qo7
    rw [qo7] at h
    try dsimp only [Sum.elim_inl, Sum.elim_inr] at h
    refine J_iconst (x := 1) dX10_readHall_53 (by decide) (q := 54) rfl ?_
    refine J_istore_n (lv' := [(1, .int 1), (0, .ref a0)]) dX10_readHall_54 rfl (by decide) rfl (q := 55) rfl ?_
    obtain ⟨o15, hlo15, h⟩ := bindS h
    refine J_pick [1, 0] rfl ?_
    refine tX10_readHall_w55 ha0 hlo15 ?_
    · intro so15 qo15
      rw [qo15] at h
      try dsimp only [Sum.elim_inl, Sum.elim_inr] at h
      refine J_pick [0] rfl ?_
      exact tX10_readHall_b111 ha0 h

def fX10_readStep_b124 (z0 : Nat) (z1 : Int32) (z2 : Nat) (z3 : Int32) (z4 : Int32) (σ : Mm) : Option (Mm) :=
  bnd2 (fX10_number z2 z3 z4 σ) fun vk15 sk15 => if ixB z1 (ln z0) = true then some (sI sk15 z0 (Int32.toNatClampNeg z1) vk15) else none
set_option maxRecDepth 20000 in
set_option maxHeartbeats 2000000 in
theorem tX10_readStep_b124 {X : XS} {n : Nat} {σ : Mm} {z0 : Nat} {z1 : Int32} {z2 : Nat} {z3 : Int32} {z4 : Int32} (hz0 : RT n z0 200) (hz2 : RT n z2 110) {res : Mm} (h : fX10_readStep_b124 z0 z1 z2 z3 z4 σ = some res) : J X mX10_readStep 8 0 0 (n, none, res) 124 [] [.int z4, .int z3, .ref z2, .int z1, .ref z0] n σ := by
  unfold fX10_readStep_b124 at h
  obtain ⟨vk15, sk15, hk15, h⟩ := bnd2S h
  refine J_cVi (as := [.int z3, .int z4]) dX10_readStep_124 mRX10_239 hz2 (tX10_number hz2 hk15) rfl (Nat.le_of_ble_eq_true rfl) (Nat.le_of_ble_eq_true rfl) (Nat.le_of_ble_eq_true rfl) (q := 127) rfl ?_
  intro bk15
  obtain ⟨g16, h⟩ := iteS h
  refine J_iast dX10_readStep_127 hz0 (ixB_ok g16) (q := 128) rfl ?_
  have h := Option.some.inj h
  subst h
  exact J_return dX10_readStep_128 rfl rfl

def fX10_readStep (a0 : Nat) (a1 : Int32) (σ : Mm) : Option (Mm) :=
  bnd2 (fX10_look a0 σ) fun vk1 sk1 => (fX10_spotOf (1100 + 2 * 4) vk1 sk1).bind fun vk2 => if vk2 = (-1) then bnd2 (fX10_fails a0 sk1) fun vk18 sk18 => some sk18 else (gR sk1 a0 24).bind fun r4 => if ixB a1 (ln r4) = true then if ixB (a1 + 1) (ln r4) = true then if ixB (a1 + 2) (ln r4) = true then if vk2 = 3 then some (sI (sI (sI (sI sk1 a0 10 ((gI sk1 a0 10) + 1)) r4 (Int32.toNatClampNeg a1) vk2) r4 (Int32.toNatClampNeg (a1 + 1)) (-1)) r4 (Int32.toNatClampNeg (a1 + 2)) (-1)) else bnd2 (fX10_look a0 (sI (sI (sI (sI sk1 a0 10 ((gI sk1 a0 10) + 1)) r4 (Int32.toNatClampNeg a1) vk2) r4 (Int32.toNatClampNeg (a1 + 1)) (-1)) r4 (Int32.toNatClampNeg (a1 + 2)) (-1))) fun vk9 sk9 => (fX10_isDigit a0 sk9).bind fun vk10 => if vk10 = 0 then bnd2 (fX10_fails a0 sk9) fun vk17 sk17 => some sk17 else (gR sk9 a0 24).bind fun r12 => if ixB (a1 + 1) (ln r12) = true then if vk2 = 2 then fX10_readStep_b124 r12 (a1 + 2) a0 0 29 (sI (sI sk9 r12 (Int32.toNatClampNeg (a1 + 1)) (vk9 - 48)) a0 10 ((gI (sI sk9 r12 (Int32.toNatClampNeg (a1 + 1)) (vk9 - 48)) a0 10) + 1)) else fX10_readStep_b124 r12 (a1 + 2) a0 0 11 (sI (sI sk9 r12 (Int32.toNatClampNeg (a1 + 1)) (vk9 - 48)) a0 10 ((gI (sI sk9 r12 (Int32.toNatClampNeg (a1 + 1)) (vk9 - 48)) a0 10) + 1)) else none else none else none else none
set_option maxRecDepth 20000 in
set_option maxHeartbeats 2000000 in
theorem tX10_readStep {X : XS} {n : Nat} {σ : Mm} {a0 : Nat} {a1 : Int32} (ha0 : RT n a0 110) {res : Mm} (h : fX10_readStep a0 a1 σ = some res) : MT X yX10_readStep mX10_readStep 8 0 0 [.ref a0, .int a1] n σ (n, none, res) := by
  unfold fX10_readStep at h
  refine MT_of (by decide +kernel) rfl (fun h => by cases h) (Nat.le_of_ble_eq_true rfl) ?_
  show J X mX10_readStep 8 0 0 (n, none, res) 0 [(0, .ref a0), (1, .int a1)] [] n σ
  refine J_ldcwS (tx := "rcgn") (j := 4) dX10_readStep_0 (by decide +kernel) (q := 3) rfl ?_
  refine J_aload_n (z := 0) dX10_readStep_3 rfl rfl (q := 4) rfl ?_
  obtain ⟨vk1, sk1, hk1, h⟩ := bnd2S h
  refine J_cVi (as := []) dX10_readStep_4 mRX10_138 ha0 (tX10_look ha0 hk1) rfl (Nat.le_of_ble_eq_true rfl) (Nat.le_of_ble_eq_true rfl) (Nat.le_of_ble_eq_true rfl) (q := 7) rfl ?_
  intro bk1
  obtain ⟨vk2, hk2, h⟩ := bindS h
  refine J_cSi (as := [.ref (1100 + 2 * 4), .int vk1]) dX10_readStep_7 mRX10_225 (tX10_spotOf (rtS_4 _) hk2) rfl (Nat.le_of_ble_eq_true rfl) (Nat.le_of_ble_eq_true rfl) (Nat.le_of_ble_eq_true rfl) (q := 10) rfl ?_
  intro bk2
  refine J_istore_n (lv' := [(2, .int vk2), (0, .ref a0), (1, .int a1)]) dX10_readStep_10 rfl (by decide) rfl (q := 11) rfl ?_
  refine J_iload_n (z := 0) dX10_readStep_11 rfl rfl (q := 12) rfl ?_
  refine J_iconst (x := (-1)) dX10_readStep_12 (by decide) (q := 13) rfl ?_
  refine J_icmp_ne (tgt := 22) dX10_readStep_13 (by decide) (q := 16) rfl (fun c2 => ?_) (fun c2 => ?_)
  · rw [if_neg c2] at h
    refine J_aload_n (z := 1) dX10_readStep_22 rfl rfl (q := 23) rfl ?_
    refine J_dup dX10_readStep_23 rfl (q := 24) rfl ?_
    refine J_getI dX10_readStep_24 lRX10_119 ha0 rfl (q := 27) rfl ?_
    refine J_iconst (x := 1) dX10_readStep_27 (by decide) (q := 28) rfl ?_
    refine J_iadd dX10_readStep_28  (q := 29) rfl ?_
    refine J_putI dX10_readStep_29 lRX10_119 (fun h => by cases h) ha0 rfl (q := 32) rfl ?_
    refine J_aload_n (z := 1) dX10_readStep_32 rfl rfl (q := 33) rfl ?_
    obtain ⟨r4, er4, h⟩ := bindS h
    refine J_getR dX10_readStep_33 lRX10_55 ha0 rfl (by decide) er4 (q := 36) rfl (fun fr4 => ?_)
    refine J_iload_n (z := 2) dX10_readStep_36 rfl rfl (q := 37) rfl ?_
    refine J_iload_n (z := 0) dX10_readStep_37 rfl rfl (q := 38) rfl ?_
    obtain ⟨g5, h⟩ := iteS h
    refine J_iast dX10_readStep_38 fr4 (ixB_ok g5) (q := 39) rfl ?_
    refine J_aload_n (z := 1) dX10_readStep_39 rfl rfl (q := 40) rfl ?_
    refine J_getR dX10_readStep_40 lRX10_55 ha0 rfl (by decide) er4 (q := 43) rfl (fun _ => ?_)
    refine J_iload_n (z := 2) dX10_readStep_43 rfl rfl (q := 44) rfl ?_
    refine J_iconst (x := 1) dX10_readStep_44 (by decide) (q := 45) rfl ?_
    refine J_iadd dX10_readStep_45  (q := 46) rfl ?_
    refine J_iconst (x := (-1)) dX10_readStep_46 (by decide) (q := 47) rfl ?_
    obtain ⟨g6, h⟩ := iteS h
    refine J_iast dX10_readStep_47 fr4 (ixB_ok g6) (q := 48) rfl ?_
    refine J_aload_n (z := 1) dX10_readStep_48 rfl rfl (q := 49) rfl ?_
    refine J_getR dX10_readStep_49 lRX10_55 ha0 rfl (by decide) er4 (q := 52) rfl (fun _ => ?_)
    refine J_iload_n (z := 2) dX10_readStep_52 rfl rfl (q := 53) rfl ?_
    refine J_iconst (x := 2) dX10_readStep_53 (by decide) (q := 54) rfl ?_
    refine J_iadd dX10_readStep_54  (q := 55) rfl ?_
    refine J_iconst (x := (-1)) dX10_readStep_55 (by decide) (q := 56) rfl ?_
    obtain ⟨g7, h⟩ := iteS h
    refine J_iast dX10_readStep_56 fr4 (ixB_ok g7) (q := 57) rfl ?_
    refine J_iload_n (z := 0) dX10_readStep_57 rfl rfl (q := 58) rfl ?_
    refine J_iconst (x := 3) dX10_readStep_58 (by decide) (q := 59) rfl ?_
    refine J_icmp_ne (tgt := 63) dX10_readStep_59 (by decide) (q := 62) rfl (fun c7 => ?_) (fun c7 => ?_)
    · rw [if_neg c7] at h
      refine J_aload_n (z := 1) dX10_readStep_63 rfl rfl (q := 64) rfl ?_
      obtain ⟨vk9, sk9, hk9, h⟩ := bnd2S h
      refine J_cVi (as := []) dX10_readStep_64 mRX10_138 ha0 (tX10_look ha0 hk9) rfl (Nat.le_of_ble_eq_true rfl) (Nat.le_of_ble_eq_true rfl) (Nat.le_of_ble_eq_true rfl) (q := 67) rfl ?_
      intro bk9
      refine J_istore_n (lv' := [(3, .int vk9), (2, .int vk2), (0, .ref a0), (1, .int a1)]) dX10_readStep_67 rfl (by decide) rfl (q := 68) rfl ?_
      refine J_aload_n (z := 2) dX10_readStep_68 rfl rfl (q := 69) rfl ?_
      obtain ⟨vk10, hk10, h⟩ := bindS h
      refine J_cVi (as := []) dX10_readStep_69 mRX10_168 ha0 (tX10_isDigit ha0 hk10) rfl (Nat.le_of_ble_eq_true rfl) (Nat.le_of_ble_eq_true rfl) (Nat.le_of_ble_eq_true rfl) (q := 72) rfl ?_
      intro bk10
      refine J_if_ne (tgt := 81) dX10_readStep_72 (by decide) (q := 75) rfl (fun c10 => ?_) (fun c10 => ?_)
      · rw [if_neg c10] at h
        refine J_aload_n (z := 2) dX10_readStep_81 rfl rfl (q := 82) rfl ?_
        obtain ⟨r12, er12, h⟩ := bindS h
        refine J_getR dX10_readStep_82 lRX10_55 ha0 rfl (by decide) er12 (q := 85) rfl (fun fr12 => ?_)
        refine J_iload_n (z := 3) dX10_readStep_85 rfl rfl (q := 86) rfl ?_
        refine J_iconst (x := 1) dX10_readStep_86 (by decide) (q := 87) rfl ?_
        refine J_iadd dX10_readStep_87  (q := 88) rfl ?_
        refine J_iload_n (z := 0) dX10_readStep_88 rfl rfl (q := 89) rfl ?_
        refine J_bipush (x := 48) dX10_readStep_89 (by decide) (q := 91) rfl ?_
        refine J_isub dX10_readStep_91  (q := 92) rfl ?_
        obtain ⟨g13, h⟩ := iteS h
        refine J_iast dX10_readStep_92 fr12 (ixB_ok g13) (q := 93) rfl ?_
        refine J_aload_n (z := 2) dX10_readStep_93 rfl rfl (q := 94) rfl ?_
        refine J_dup dX10_readStep_94 rfl (q := 95) rfl ?_
        refine J_getI dX10_readStep_95 lRX10_119 ha0 rfl (q := 98) rfl ?_
        refine J_iconst (x := 1) dX10_readStep_98 (by decide) (q := 99) rfl ?_
        refine J_iadd dX10_readStep_99  (q := 100) rfl ?_
        refine J_putI dX10_readStep_100 lRX10_119 (fun h => by cases h) ha0 rfl (q := 103) rfl ?_
        refine J_aload_n (z := 2) dX10_readStep_103 rfl rfl (q := 104) rfl ?_
        refine J_getR dX10_readStep_104 lRX10_55 ha0 rfl (by decide) er12 (q := 107) rfl (fun _ => ?_)
        refine J_iload_n (z := 3) dX10_readStep_107 rfl rfl (q := 108) rfl ?_
        refine J_iconst (x := 2) dX10_readStep_108 (by decide) (q := 109) rfl ?_
        refine J_iadd dX10_readStep_109  (q := 110) rfl ?_
        refine J_aload_n (z := 2) dX10_readStep_110 rfl rfl (q := 111) rfl ?_
        refine J_iconst (x := 0) dX10_readStep_111 (by decide) (q := 112) rfl ?_
        refine J_iload_n (z := 1) dX10_readStep_112 rfl rfl (q := 113) rfl ?_
        refine J_iconst (x := 2) dX10_readStep_113 (by decide) (q := 114) rfl ?_
        refine J_icmp_ne (tgt := 122) dX10_readStep_114 (by decide) (q := 117) rfl (fun c13 => ?_) (fun c13 => ?_)
        · rw [if_neg c13] at h
          refine J_bipush (x := 11) dX10_readStep_122 (by decide) (q := 124) rfl ?_
          refine J_pick [] rfl ?_
          exact tX10_readStep_b124 fr12 ha0 h
        · rw [if_pos c13] at h
          refine J_bipush (x := 29) dX10_readStep_117 (by decide) (q := 119) rfl ?_
          refine J_goto (tgt := 124) dX10_readStep_119 (by decide) ?_
          refine J_pick [] rfl ?_
          exact tX10_readStep_b124 fr12 ha0 h
      · rw [if_pos c10] at h
        refine J_aload_n (z := 2) dX10_readStep_75 rfl rfl (q := 76) rfl ?_
        obtain ⟨vk17, sk17, hk17, h⟩ := bnd2S h
        refine J_cVi (as := []) dX10_readStep_76 mRX10_134 ha0 (tX10_fails ha0 hk17) rfl (Nat.le_of_ble_eq_true rfl) (Nat.le_of_ble_eq_true rfl) (Nat.le_of_ble_eq_true rfl) (q := 79) rfl ?_
        intro bk17
        refine J_pop dX10_readStep_79 rfl (q := 80) rfl ?_
        have h := Option.some.inj h
        subst h
        exact J_return dX10_readStep_80 rfl rfl
    · rw [if_pos c7] at h
      have h := Option.some.inj h
      subst h
      exact J_return dX10_readStep_62 rfl rfl
  · rw [if_pos c2] at h
    refine J_aload_n (z := 1) dX10_readStep_16 rfl rfl (q := 17) rfl ?_
    obtain ⟨vk18, sk18, hk18, h⟩ := bnd2S h
    refine J_cVi (as := []) dX10_readStep_17 mRX10_134 ha0 (tX10_fails ha0 hk18) rfl (Nat.le_of_ble_eq_true rfl) (Nat.le_of_ble_eq_true rfl) (Nat.le_of_ble_eq_true rfl) (q := 20) rfl ?_
    intro bk18
    refine J_pop dX10_readStep_20 rfl (q := 21) rfl ?_
    have h := Option.some.inj h
    subst h
    exact J_return dX10_readStep_21 rfl rfl

def fX10_readPlan_b74 (a0 : Nat) (a1 : Int32) (a2 : Int32) (σ : Mm) : Option ((Int32 × Int32 × Mm) ⊕ (Mm ⊕ ((Int32 × Mm) ⊕ Mm))) :=
  if a2 = 0 then some (Sum.inl (a1, a2, σ)) else some (Sum.inl (a1, a2, (sI σ a0 10 ((gI σ a0 10) + 1))))
set_option maxRecDepth 20000 in
set_option maxHeartbeats 2000000 in
theorem tX10_readPlan_b74 {X : XS} {n : Nat} {σ : Mm} {F : Nat × Option Value × Mm} {a0 : Nat} {a1 : Int32} {a2 : Int32} (ha0 : RT n a0 110) {res : (Int32 × Int32 × Mm) ⊕ (Mm ⊕ ((Int32 × Mm) ⊕ Mm))} (h : fX10_readPlan_b74 a0 a1 a2 σ = some res) (hc : ∀ (b1 : Int32) (b2 : Int32) (s : Mm), res = .inl (b1, b2, s) → J X mX10_readPlan 9 0 0 F 17 [(0, .ref a0), (1, .int b1), (2, .int b2)] [] n s) (he0 : ∀ (b1 : Int32) (s : Mm), res = .inr (Sum.inr (Sum.inl (b1, s))) → J X mX10_readPlan 9 0 0 F 91 [(0, .ref a0), (1, .int b1)] [] n s) (he1 : ∀  (s : Mm), res = .inr (Sum.inr (Sum.inr s)) → J X mX10_readPlan 9 0 0 F 68 [(0, .ref a0)] [] n s) (hr : ∀ (s : Mm), res = .inr (Sum.inl s) → F = (n, none, s)) : J X mX10_readPlan 9 0 0 F 74 [(0, .ref a0), (1, .int a1), (2, .int a2)] [] n σ := by
  unfold fX10_readPlan_b74 at h
  refine J_iload_n (z := 2) dX10_readPlan_74 rfl rfl (q := 75) rfl ?_
  refine J_if_eq (tgt := 17) dX10_readPlan_75 (by decide) (q := 78) rfl (fun c8 => ?_) (fun c8 => ?_)
  · rw [if_pos c8] at h
    have h := Option.some.inj h
    refine J_pick [0, 1, 2] rfl ?_
    exact hc _ _ _ h.symm
  · rw [if_neg c8] at h
    refine J_aload_n (z := 0) dX10_readPlan_78 rfl rfl (q := 79) rfl ?_
    refine J_dup dX10_readPlan_79 rfl (q := 80) rfl ?_
    refine J_getI dX10_readPlan_80 lRX10_119 ha0 rfl (q := 83) rfl ?_
    refine J_iconst (x := 1) dX10_readPlan_83 (by decide) (q := 84) rfl ?_
    refine J_iadd dX10_readPlan_84  (q := 85) rfl ?_
    refine J_putI dX10_readPlan_85 lRX10_119 (fun h => by cases h) ha0 rfl (q := 88) rfl ?_
    refine J_goto (tgt := 17) dX10_readPlan_88 (by decide) ?_
    have h := Option.some.inj h
    refine J_pick [0, 1, 2] rfl ?_
    exact hc _ _ _ h.symm

def fX10_readPlan_b57 (a0 : Nat) (a1 : Int32) (z0 : Int32) (σ : Mm) : Option ((Int32 × Int32 × Mm) ⊕ (Mm ⊕ ((Int32 × Mm) ⊕ Mm))) :=
  if z0 = 0 then fX10_readPlan_b74 a0 a1 z0 σ else if a1 = 16 then some (Sum.inr (Sum.inr (Sum.inr σ))) else fX10_readPlan_b74 a0 a1 z0 σ
set_option maxRecDepth 20000 in
set_option maxHeartbeats 2000000 in
theorem tX10_readPlan_b57 {X : XS} {n : Nat} {σ : Mm} {F : Nat × Option Value × Mm} {a0 : Nat} {a1 : Int32} {z0 : Int32} (ha0 : RT n a0 110) {res : (Int32 × Int32 × Mm) ⊕ (Mm ⊕ ((Int32 × Mm) ⊕ Mm))} (h : fX10_readPlan_b57 a0 a1 z0 σ = some res) (hc : ∀ (b1 : Int32) (b2 : Int32) (s : Mm), res = .inl (b1, b2, s) → J X mX10_readPlan 9 0 0 F 17 [(0, .ref a0), (1, .int b1), (2, .int b2)] [] n s) (he0 : ∀ (b1 : Int32) (s : Mm), res = .inr (Sum.inr (Sum.inl (b1, s))) → J X mX10_readPlan 9 0 0 F 91 [(0, .ref a0), (1, .int b1)] [] n s) (he1 : ∀  (s : Mm), res = .inr (Sum.inr (Sum.inr s)) → J X mX10_readPlan 9 0 0 F 68 [(0, .ref a0)] [] n s) (hr : ∀ (s : Mm), res = .inr (Sum.inl s) → F = (n, none, s)) : J X mX10_readPlan 9 0 0 F 57 [(0, .ref a0), (1, .int a1)] [.int z0] n σ := by
  unfold fX10_readPlan_b57 at h
  refine J_istore_n (lv' := [(2, .int z0), (0, .ref a0), (1, .int a1)]) dX10_readPlan_57 rfl (by decide) rfl (q := 58) rfl ?_
  refine J_iload_n (z := 0) dX10_readPlan_58 rfl rfl (q := 59) rfl ?_
  refine J_if_eq (tgt := 74) dX10_readPlan_59 (by decide) (q := 62) rfl (fun c7 => ?_) (fun c7 => ?_)
  · rw [if_pos c7] at h
    refine J_pick [1, 2, 0] rfl ?_
    exact tX10_readPlan_b74 ha0 h hc he0 he1 hr
  · rw [if_neg c7] at h
    refine J_iload_n (z := 2) dX10_readPlan_62 rfl rfl (q := 63) rfl ?_
    refine J_bipush (x := 16) dX10_readPlan_63 (by decide) (q := 65) rfl ?_
    refine J_icmp_ne (tgt := 74) dX10_readPlan_65 (by decide) (q := 68) rfl (fun c9 => ?_) (fun c9 => ?_)
    · rw [if_neg c9] at h
      refine J_pick [1, 2, 0] rfl ?_
      exact tX10_readPlan_b74 ha0 h hc he0 he1 hr
    · rw [if_pos c9] at h
      have h := Option.some.inj h
      refine J_pick [1] rfl ?_
      exact he1 _ h.symm

def fX10_readPlan_l17 (a0 : Nat) (a1 : Int32) (a2 : Int32) (σ : Mm) : Option ((Int32 × Int32 × Mm) ⊕ (Mm ⊕ ((Int32 × Mm) ⊕ Mm))) :=
  if a2 = 0 then some (Sum.inr (Sum.inr (Sum.inl (a1, σ)))) else (fX10_readStep a0 (3 * (64 + a1)) σ).bind fun sk4 => if (gI sk4 a0 11) = (-1) then bnd2 (fX10_look a0 sk4) fun vk6 sk6 => if vk6 = 59 then fX10_readPlan_b57 a0 (a1 + 1) 1 sk6 else fX10_readPlan_b57 a0 (a1 + 1) 0 sk6 else some (Sum.inr (Sum.inl sk4))
set_option maxRecDepth 20000 in
set_option maxHeartbeats 2000000 in
theorem tX10_readPlan_l17 {X : XS} {n : Nat} {σ : Mm} {F : Nat × Option Value × Mm} {a0 : Nat} {a1 : Int32} {a2 : Int32} (ha0 : RT n a0 110) {res : (Int32 × Int32 × Mm) ⊕ (Mm ⊕ ((Int32 × Mm) ⊕ Mm))} (h : fX10_readPlan_l17 a0 a1 a2 σ = some res) (hc : ∀ (b1 : Int32) (b2 : Int32) (s : Mm), res = .inl (b1, b2, s) → J X mX10_readPlan 9 0 0 F 17 [(0, .ref a0), (1, .int b1), (2, .int b2)] [] n s) (he0 : ∀ (b1 : Int32) (s : Mm), res = .inr (Sum.inr (Sum.inl (b1, s))) → J X mX10_readPlan 9 0 0 F 91 [(0, .ref a0), (1, .int b1)] [] n s) (he1 : ∀  (s : Mm), res = .inr (Sum.inr (Sum.inr s)) → J X mX10_readPlan 9 0 0 F 68 [(0, .ref a0)] [] n s) (hr : ∀ (s : Mm), res = .inr (Sum.inl s) → F = (n, none, s)) : J X mX10_readPlan 9 0 0 F 17 [(0, .ref a0), (1, .int a1), (2, .int a2)] [] n σ := by
  unfold fX10_readPlan_l17 at h
  refine J_iload_n (z := 2) dX10_readPlan_17 rfl rfl (q := 18) rfl ?_
  refine J_if_eq (tgt := 91) dX10_readPlan_18 (by decide) (q := 21) rfl (fun c2 => ?_) (fun c2 => ?_)
  · rw [if_pos c2] at h
    have h := Option.some.inj h
    refine J_pick [0, 1] rfl ?_
    exact he0 _ _ h.symm
  · rw [if_neg c2] at h
    refine J_aload_n (z := 0) dX10_readPlan_21 rfl rfl (q := 22) rfl ?_
    refine J_iconst (x := 3) dX10_readPlan_22 (by decide) (q := 23) rfl ?_
    refine J_bipush (x := 64) dX10_readPlan_23 (by decide) (q := 25) rfl ?_
    refine J_iload_n (z := 1) dX10_readPlan_25 rfl rfl (q := 26) rfl ?_
    refine J_iadd dX10_readPlan_26  (q := 27) rfl ?_
    refine J_imul dX10_readPlan_27  (q := 28) rfl ?_
    obtain ⟨sk4, hk4, h⟩ := bindS h
    refine J_cVv (as := [.int (3 * (64 + a1))]) dX10_readPlan_28 mRX10_269 ha0 (tX10_readStep ha0 hk4) rfl (Nat.le_of_ble_eq_true rfl) (Nat.le_of_ble_eq_true rfl) (Nat.le_of_ble_eq_true rfl) (q := 31) rfl ?_
    refine J_aload_n (z := 0) dX10_readPlan_31 rfl rfl (q := 32) rfl ?_
    refine J_getI dX10_readPlan_32 lRX10_128 ha0 rfl (q := 35) rfl ?_
    refine J_iconst (x := (-1)) dX10_readPlan_35 (by decide) (q := 36) rfl ?_
    refine J_icmp_eq (tgt := 40) dX10_readPlan_36 (by decide) (q := 39) rfl (fun c4 => ?_) (fun c4 => ?_)
    · rw [if_pos c4] at h
      refine J_iinc (z := 1) (y := (a1 + 1)) (lv' := [(1, .int (a1 + 1)), (0, .ref a0), (2, .int a2)]) dX10_readPlan_40 rfl rfl (by decide) rfl (q := 43) rfl ?_
      refine J_aload_n (z := 1) dX10_readPlan_43 rfl rfl (q := 44) rfl ?_
      obtain ⟨vk6, sk6, hk6, h⟩ := bnd2S h
      refine J_cVi (as := []) dX10_readPlan_44 mRX10_138 ha0 (tX10_look ha0 hk6) rfl (Nat.le_of_ble_eq_true rfl) (Nat.le_of_ble_eq_true rfl) (Nat.le_of_ble_eq_true rfl) (q := 47) rfl ?_
      intro bk6
      refine J_bipush (x := 59) dX10_readPlan_47 (by decide) (q := 49) rfl ?_
      refine J_icmp_ne (tgt := 56) dX10_readPlan_49 (by decide) (q := 52) rfl (fun c6 => ?_) (fun c6 => ?_)
      · rw [if_neg c6] at h
        refine J_iconst (x := 0) dX10_readPlan_56 (by decide) (q := 57) rfl ?_
        refine J_pick [1, 0] rfl ?_
        exact tX10_readPlan_b57 ha0 h hc he0 he1 hr
      · rw [if_pos c6] at h
        refine J_iconst (x := 1) dX10_readPlan_52 (by decide) (q := 53) rfl ?_
        refine J_goto (tgt := 57) dX10_readPlan_53 (by decide) ?_
        refine J_pick [1, 0] rfl ?_
        exact tX10_readPlan_b57 ha0 h hc he0 he1 hr
    · rw [if_neg c4] at h
      have h := Option.some.inj h
      exact J_return dX10_readPlan_39 rfl (hr _ h.symm)

def fX10_readPlan_w17 (a0 : Nat) (a1 : Int32) (a2 : Int32) (σ : Mm) : Option (Mm ⊕ ((Int32 × Mm) ⊕ Mm)) :=
  wh (fun a : Int32 × Int32 × Mm => fX10_readPlan_l17 a0 a.1 a.2.1 a.2.2) BIG (a1, a2, σ)
set_option maxRecDepth 20000 in
set_option maxHeartbeats 2000000 in
theorem tX10_readPlan_w17 {X : XS} {n : Nat} {σ : Mm} {F : Nat × Option Value × Mm} {a0 : Nat} {a1 : Int32} {a2 : Int32} (ha0 : RT n a0 110) {res : Mm ⊕ ((Int32 × Mm) ⊕ Mm)} (h : fX10_readPlan_w17 a0 a1 a2 σ = some res) (he0 : ∀ (b1 : Int32) (s : Mm), res = (Sum.inr (Sum.inl (b1, s))) → J X mX10_readPlan 9 0 0 F 91 [(0, .ref a0), (1, .int b1)] [] n s) (he1 : ∀  (s : Mm), res = (Sum.inr (Sum.inr s)) → J X mX10_readPlan 9 0 0 F 68 [(0, .ref a0)] [] n s) (hr : ∀ (s : Mm), res = (Sum.inl s) → F = (n, none, s)) : J X mX10_readPlan 9 0 0 F 17 [(0, .ref a0), (1, .int a1), (2, .int a2)] [] n σ := by
  unfold fX10_readPlan_w17 at h
  refine wh_rule (P := fun a : Int32 × Int32 × Mm => J X mX10_readPlan 9 0 0 F 17 [(0, .ref a0), (1, .int a.1), (2, .int a.2.1)] [] n a.2.2) (K := fun b => b = res) ?_ _ _ _ h rfl
  intro a
  refine ⟨fun a2 hb hP => ?_, fun b hb hK => ?_⟩
  · exact tX10_readPlan_l17 ha0 hb (fun _ _ _ e => by cases e; exact hP) (fun _ _ e => by cases e) (fun _ e => by cases e) (fun _ e => by cases e)
  · subst hK
    exact tX10_readPlan_l17 ha0 hb (fun _ _ _ e => by cases e) (fun v0 v1 e => he0 v0 v1 (Sum.inr.inj e)) (fun v0 e => he1 v0 (Sum.inr.inj e)) (fun v0 e => hr v0 (Sum.inr.inj e))

def fX10_readPlan (a0 : Nat) (σ : Mm) : Option (Mm) :=
  (gR σ a0 1).bind fun r1 => (fX10_starts a0 r1 0 (gI σ a0 6) σ).bind fun sk2 => (fX10_readPlan_w17 a0 0 1 sk2).bind (Sum.elim (fun eo110 => some eo110) (Sum.elim (fun eo111 => (fun xo11_1 so11 => (gR so11 a0 25).bind fun r12 => if ixB 4 (ln r12) = true then bnd2 (fX10_look a0 (sI so11 r12 (Int32.toNatClampNeg 4) xo11_1)) fun vk14 sk14 => if vk14 = (-1) then some sk14 else bnd2 (fX10_fails a0 sk14) fun vk16 sk16 => some sk16 else none) eo111.1 eo111.2) (fun eo112 => (fun so11 => bnd2 (fX10_fails a0 so11) fun vk17 sk17 => some sk17) eo112)))
set_option maxRecDepth 20000 in
set_option maxHeartbeats 2000000 in
theorem tX10_readPlan {X : XS} {n : Nat} {σ : Mm} {a0 : Nat} (ha0 : RT n a0 110) {res : Mm} (h : fX10_readPlan a0 σ = some res) : MT X yX10_readPlan mX10_readPlan 9 0 0 [.ref a0] n σ (n, none, res) := by
  unfold fX10_readPlan at h
  refine MT_of (by decide +kernel) rfl (fun h => by cases h) (Nat.le_of_ble_eq_true rfl) ?_
  show J X mX10_readPlan 9 0 0 (n, none, res) 0 [(0, .ref a0)] [] n σ
  refine J_aload_n (z := 0) dX10_readPlan_0 rfl rfl (q := 1) rfl ?_
  refine J_aload_n (z := 0) dX10_readPlan_1 rfl rfl (q := 2) rfl ?_
  obtain ⟨r1, er1, h⟩ := bindS h
  refine J_getR dX10_readPlan_2 lRX10_9 ha0 rfl (by decide) er1 (q := 5) rfl (fun fr1 => ?_)
  refine J_iconst (x := 0) dX10_readPlan_5 (by decide) (q := 6) rfl ?_
  refine J_aload_n (z := 0) dX10_readPlan_6 rfl rfl (q := 7) rfl ?_
  refine J_getI dX10_readPlan_7 lRX10_109 ha0 rfl (q := 10) rfl ?_
  obtain ⟨sk2, hk2, h⟩ := bindS h
  refine J_cVv (as := [.ref r1, .int 0, .int (gI σ a0 6)]) dX10_readPlan_10 mRX10_207 ha0 (tX10_starts ha0 fr1 hk2) rfl (Nat.le_of_ble_eq_true rfl) (Nat.le_of_ble_eq_true rfl) (Nat.le_of_ble_eq_true rfl) (q := 13) rfl ?_
  refine J_iconst (x := 0) dX10_readPlan_13 (by decide) (q := 14) rfl ?_
  refine J_istore_n (lv' := [(1, .int 0), (0, .ref a0)]) dX10_readPlan_14 rfl (by decide) rfl (q := 15) rfl ?_
  refine J_iconst (x := 1) dX10_readPlan_15 (by decide) (q := 16) rfl ?_
  refine J_istore_n (lv' := [(2, .int 1), (1, .int 0), (0, .ref a0)]) dX10_readPlan_16 rfl (by decide) rfl (q := 17) rfl ?_
  obtain ⟨o11, hlo11, h⟩ := bindS h
  refine J_pick [2, 1, 0] rfl ?_
  refine tX10_readPlan_w17 ha0 hlo11 ?_ ?_ ?_
  · intro xo11_1 so11 qo11
    rw [qo11] at h
    try dsimp only [Sum.elim_inl, Sum.elim_inr] at h
    refine J_aload_n (z := 0) dX10_readPlan_91 rfl rfl (q := 92) rfl ?_
    obtain ⟨r12, er12, h⟩ := bindS h
    refine J_getR dX10_readPlan_92 lRX10_58 ha0 rfl (by decide) er12 (q := 95) rfl (fun fr12 => ?_)
    refine J_iconst (x := 4) dX10_readPlan_95 (by decide) (q := 96) rfl ?_
    refine J_iload_n (z := 1) dX10_readPlan_96 rfl rfl (q := 97) rfl ?_
    obtain ⟨g13, h⟩ := iteS h
    refine J_iast dX10_readPlan_97 fr12 (ixB_ok g13) (q := 98) rfl ?_
    refine J_aload_n (z := 0) dX10_readPlan_98 rfl rfl (q := 99) rfl ?_
    obtain ⟨vk14, sk14, hk14, h⟩ := bnd2S h
    refine J_cVi (as := []) dX10_readPlan_99 mRX10_138 ha0 (tX10_look ha0 hk14) rfl (Nat.le_of_ble_eq_true rfl) (Nat.le_of_ble_eq_true rfl) (Nat.le_of_ble_eq_true rfl) (q := 102) rfl ?_
    intro bk14
    refine J_iconst (x := (-1)) dX10_readPlan_102 (by decide) (q := 103) rfl ?_
    refine J_icmp_eq (tgt := 111) dX10_readPlan_103 (by decide) (q := 106) rfl (fun c14 => ?_) (fun c14 => ?_)
    · rw [if_pos c14] at h
      have h := Option.some.inj h
      subst h
      exact J_return dX10_readPlan_111 rfl rfl
    · rw [if_neg c14] at h
      refine J_aload_n (z := 0) dX10_readPlan_106 rfl rfl (q := 107) rfl ?_
      obtain ⟨vk16, sk16, hk16, h⟩ := bnd2S h
      refine J_cVi (as := []) dX10_readPlan_107 mRX10_134 ha0 (tX10_fails ha0 hk16) rfl (Nat.le_of_ble_eq_true rfl) (Nat.le_of_ble_eq_true rfl) (Nat.le_of_ble_eq_true rfl) (q := 110) rfl ?_
      intro bk16
      refine J_pop dX10_readPlan_110 rfl (q := 111) rfl ?_
      have h := Option.some.inj h
      subst h
      exact J_return dX10_readPlan_111 rfl rfl
  · intro so11 qo11
    rw [qo11] at h
    try dsimp only [Sum.elim_inl, Sum.elim_inr] at h
    refine J_aload_n (z := 0) dX10_readPlan_68 rfl rfl (q := 69) rfl ?_
    obtain ⟨vk17, sk17, hk17, h⟩ := bnd2S h
    refine J_cVi (as := []) dX10_readPlan_69 mRX10_134 ha0 (tX10_fails ha0 hk17) rfl (Nat.le_of_ble_eq_true rfl) (Nat.le_of_ble_eq_true rfl) (Nat.le_of_ble_eq_true rfl) (q := 72) rfl ?_
    intro bk17
    refine J_pop dX10_readPlan_72 rfl (q := 73) rfl ?_
    have h := Option.some.inj h
    subst h
    exact J_return dX10_readPlan_73 rfl rfl
  · intro so11 qo11
    rw [qo11] at h
    try dsimp only [Sum.elim_inl, Sum.elim_inr] at h
    have h := Option.some.inj h
    subst h
    rfl

def fX10_fault_b55 (a0 : Nat) (σ : Mm) : Option (Int32 × Mm) :=
  some ((gI σ a0 11), σ)
set_option maxRecDepth 20000 in
set_option maxHeartbeats 2000000 in
theorem tX10_fault_b55 {X : XS} {n : Nat} {σ : Mm} {a0 : Nat} (ha0 : RT n a0 110) {res : Int32 × Mm} (h : fX10_fault_b55 a0 σ = some res) : J X mX10_fault 111 0 0 (n, some (.int res.1), res.2) 55 [(0, .ref a0)] [] n σ := by
  unfold fX10_fault_b55 at h
  refine J_aload_n (z := 0) dX10_fault_55 rfl rfl (q := 56) rfl ?_
  refine J_getI dX10_fault_56 lRX10_128 ha0 rfl (q := 59) rfl ?_
  have h := Option.some.inj h
  subst h
  exact J_ireturn dX10_fault_59 rfl rfl rfl

def fX10_fault_b46 (a0 : Nat) (a1 : Int32) (σ : Mm) : Option (Int32 × Mm) :=
  if a1 = 2 then (fX10_readPlan a0 σ).bind fun sk6 => fX10_fault_b55 a0 sk6 else fX10_fault_b55 a0 σ
set_option maxRecDepth 20000 in
set_option maxHeartbeats 2000000 in
theorem tX10_fault_b46 {X : XS} {n : Nat} {σ : Mm} {a0 : Nat} {a1 : Int32} (ha0 : RT n a0 110) {res : Int32 × Mm} (h : fX10_fault_b46 a0 a1 σ = some res) : J X mX10_fault 111 0 0 (n, some (.int res.1), res.2) 46 [(0, .ref a0), (1, .int a1)] [] n σ := by
  unfold fX10_fault_b46 at h
  refine J_iload_n (z := 1) dX10_fault_46 rfl rfl (q := 47) rfl ?_
  refine J_iconst (x := 2) dX10_fault_47 (by decide) (q := 48) rfl ?_
  refine J_icmp_ne (tgt := 55) dX10_fault_48 (by decide) (q := 51) rfl (fun c4 => ?_) (fun c4 => ?_)
  · rw [if_neg c4] at h
    refine J_pick [0] rfl ?_
    exact tX10_fault_b55 ha0 h
  · rw [if_pos c4] at h
    refine J_aload_n (z := 0) dX10_fault_51 rfl rfl (q := 52) rfl ?_
    obtain ⟨sk6, hk6, h⟩ := bindS h
    refine J_cVv (as := []) dX10_fault_52 mRX10_280 ha0 (tX10_readPlan ha0 hk6) rfl (Nat.le_of_ble_eq_true rfl) (Nat.le_of_ble_eq_true rfl) (Nat.le_of_ble_eq_true rfl) (q := 55) rfl ?_
    refine J_pick [0] rfl ?_
    exact tX10_fault_b55 ha0 h

def fX10_fault_b28 (a0 : Nat) (a1 : Int32) (σ : Mm) : Option (Int32 × Mm) :=
  if a1 = 1 then (gR σ a0 1).bind fun r7 => (fX10_goThrough a0 r7 0 (gI σ a0 6) σ).bind fun sk8 => fX10_fault_b46 a0 a1 sk8 else fX10_fault_b46 a0 a1 σ
set_option maxRecDepth 20000 in
set_option maxHeartbeats 2000000 in
theorem tX10_fault_b28 {X : XS} {n : Nat} {σ : Mm} {a0 : Nat} {a1 : Int32} (ha0 : RT n a0 110) {res : Int32 × Mm} (h : fX10_fault_b28 a0 a1 σ = some res) : J X mX10_fault 111 0 0 (n, some (.int res.1), res.2) 28 [(0, .ref a0), (1, .int a1)] [] n σ := by
  unfold fX10_fault_b28 at h
  refine J_iload_n (z := 1) dX10_fault_28 rfl rfl (q := 29) rfl ?_
  refine J_iconst (x := 1) dX10_fault_29 (by decide) (q := 30) rfl ?_
  refine J_icmp_ne (tgt := 46) dX10_fault_30 (by decide) (q := 33) rfl (fun c3 => ?_) (fun c3 => ?_)
  · rw [if_neg c3] at h
    refine J_pick [0, 1] rfl ?_
    exact tX10_fault_b46 ha0 h
  · rw [if_pos c3] at h
    refine J_aload_n (z := 0) dX10_fault_33 rfl rfl (q := 34) rfl ?_
    refine J_aload_n (z := 0) dX10_fault_34 rfl rfl (q := 35) rfl ?_
    obtain ⟨r7, er7, h⟩ := bindS h
    refine J_getR dX10_fault_35 lRX10_9 ha0 rfl (by decide) er7 (q := 38) rfl (fun fr7 => ?_)
    refine J_iconst (x := 0) dX10_fault_38 (by decide) (q := 39) rfl ?_
    refine J_aload_n (z := 0) dX10_fault_39 rfl rfl (q := 40) rfl ?_
    refine J_getI dX10_fault_40 lRX10_109 ha0 rfl (q := 43) rfl ?_
    obtain ⟨sk8, hk8, h⟩ := bindS h
    refine J_cVv (as := [.ref r7, .int 0, .int (gI σ a0 6)]) dX10_fault_43 mRX10_277 ha0 (tX10_goThrough ha0 fr7 hk8) rfl (Nat.le_of_ble_eq_true rfl) (Nat.le_of_ble_eq_true rfl) (Nat.le_of_ble_eq_true rfl) (q := 46) rfl ?_
    refine J_pick [0, 1] rfl ?_
    exact tX10_fault_b46 ha0 h

def fX10_fault (a0 : Nat) (a1 : Int32) (σ : Mm) : Option (Int32 × Mm) :=
  (fX10_isIn (Int32.toInt64 a1) 0 2 (sI σ a0 0 0)).bind fun vk1 => if vk1 = 0 then some ((-2), (sI σ a0 0 0)) else if a1 = 0 then (fX10_readHall a0 (sI σ a0 0 0)).bind fun sk9 => fX10_fault_b28 a0 a1 sk9 else fX10_fault_b28 a0 a1 (sI σ a0 0 0)
set_option maxRecDepth 20000 in
set_option maxHeartbeats 2000000 in
theorem tX10_fault {X : XS} {n : Nat} {σ : Mm} {a0 : Nat} {a1 : Int32} (ha0 : RT n a0 110) {res : Int32 × Mm} (h : fX10_fault a0 a1 σ = some res) : MT X yX10_fault mX10_fault 111 0 0 [.ref a0, .int a1] n σ (n, some (.int res.1), res.2) := by
  unfold fX10_fault at h
  refine MT_of (by decide +kernel) rfl (fun h => by cases h) (Nat.le_of_ble_eq_true rfl) ?_
  show J X mX10_fault 111 0 0 (n, some (.int res.1), res.2) 0 [(0, .ref a0), (1, .int a1)] [] n σ
  refine J_aload_n (z := 0) dX10_fault_0 rfl rfl (q := 1) rfl ?_
  refine J_iconst (x := 0) dX10_fault_1 (by decide) (q := 2) rfl ?_
  refine J_putI dX10_fault_2 lRX10_96 (fun h => by cases h) ha0 rfl (q := 5) rfl ?_
  refine J_iload_n (z := 1) dX10_fault_5 rfl rfl (q := 6) rfl ?_
  refine J_i2l dX10_fault_6  (q := 7) rfl ?_
  refine J_lconst (x := 0) dX10_fault_7 (by decide) (q := 8) rfl ?_
  refine J_ldc2 (x := 2) dX10_fault_8 kRX10_272 (q := 11) rfl ?_
  obtain ⟨vk1, hk1, h⟩ := bindS h
  refine J_cSi (as := [.long (Int32.toInt64 a1), .long 0, .long 2]) dX10_fault_11 mRX10_217 (tX10_isIn  hk1) rfl (Nat.le_of_ble_eq_true rfl) (Nat.le_of_ble_eq_true rfl) (Nat.le_of_ble_eq_true rfl) (q := 14) rfl ?_
  intro bk1
  refine J_if_ne (tgt := 20) dX10_fault_14 (by decide) (q := 17) rfl (fun c1 => ?_) (fun c1 => ?_)
  · rw [if_neg c1] at h
    refine J_iload_n (z := 1) dX10_fault_20 rfl rfl (q := 21) rfl ?_
    refine J_if_ne (tgt := 28) dX10_fault_21 (by decide) (q := 24) rfl (fun c2 => ?_) (fun c2 => ?_)
    · rw [if_neg c2] at h
      refine J_pick [0, 1] rfl ?_
      exact tX10_fault_b28 ha0 h
    · rw [if_pos c2] at h
      refine J_aload_n (z := 0) dX10_fault_24 rfl rfl (q := 25) rfl ?_
      obtain ⟨sk9, hk9, h⟩ := bindS h
      refine J_cVv (as := []) dX10_fault_25 mRX10_274 ha0 (tX10_readHall ha0 hk9) rfl (Nat.le_of_ble_eq_true rfl) (Nat.le_of_ble_eq_true rfl) (Nat.le_of_ble_eq_true rfl) (q := 28) rfl ?_
      refine J_pick [0, 1] rfl ?_
      exact tX10_fault_b28 ha0 h
  · rw [if_pos c1] at h
    refine J_bipush (x := (-2)) dX10_fault_17 (by decide) (q := 19) rfl ?_
    have h := Option.some.inj h
    subst h
    exact J_ireturn dX10_fault_19 rfl rfl rfl

def fX10_text_l223 (a0 : Nat) (a3 : Int32) (σ : Mm) : Option ((Int32 × Mm) ⊕ (Mm)) :=
  if 5 ≤ a3 then some (Sum.inr σ) else (gR σ a0 18).bind fun r10 => (gR σ a0 19).bind fun r11 => if ixB a3 (ln r11) = true then if ixB a3 (ln r10) = true then some (Sum.inl ((a3 + 1), (sI σ r10 (Int32.toNatClampNeg a3) (gI σ r11 (Int32.toNatClampNeg a3))))) else none else none
set_option maxRecDepth 20000 in
set_option maxHeartbeats 2000000 in
theorem tX10_text_l223 {X : XS} {n : Nat} {σ : Mm} {F : Nat × Option Value × Mm} {a0 : Nat} {a3 : Int32} (ha0 : RT n a0 110) {res : (Int32 × Mm) ⊕ (Mm)} (h : fX10_text_l223 a0 a3 σ = some res) (hc : ∀ (b3 : Int32) (s : Mm), res = .inl (b3, s) → J X mX10_text 112 0 0 F 223 [(0, .ref a0), (3, .int b3)] [] n s) (he0 : ∀  (s : Mm), res = .inr s → J X mX10_text 112 0 0 F 246 [(0, .ref a0)] [] n s) : J X mX10_text 112 0 0 F 223 [(0, .ref a0), (3, .int a3)] [] n σ := by
  unfold fX10_text_l223 at h
  refine J_iload_n (z := 1) dX10_text_223 rfl rfl (q := 224) rfl ?_
  refine J_iconst (x := 5) dX10_text_224 (by decide) (q := 225) rfl ?_
  refine J_icmp_ge (tgt := 246) dX10_text_225 (by decide) (q := 228) rfl (fun c8 => ?_) (fun c8 => ?_)
  · rw [if_pos c8] at h
    have h := Option.some.inj h
    refine J_pick [0] rfl ?_
    exact he0 _ h.symm
  · rw [if_neg c8] at h
    refine J_aload_n (z := 0) dX10_text_228 rfl rfl (q := 229) rfl ?_
    obtain ⟨r10, er10, h⟩ := bindS h
    refine J_getR dX10_text_229 lRX10_37 ha0 rfl (by decide) er10 (q := 232) rfl (fun fr10 => ?_)
    refine J_iload_n (z := 1) dX10_text_232 rfl rfl (q := 233) rfl ?_
    refine J_aload_n (z := 0) dX10_text_233 rfl rfl (q := 234) rfl ?_
    obtain ⟨r11, er11, h⟩ := bindS h
    refine J_getR dX10_text_234 lRX10_40 ha0 rfl (by decide) er11 (q := 237) rfl (fun fr11 => ?_)
    refine J_iload_n (z := 1) dX10_text_237 rfl rfl (q := 238) rfl ?_
    obtain ⟨g12, h⟩ := iteS h
    refine J_iald dX10_text_238 fr11 (ixB_ok g12) (q := 239) rfl ?_
    obtain ⟨g13, h⟩ := iteS h
    refine J_iast dX10_text_239 fr10 (ixB_ok g13) (q := 240) rfl ?_
    refine J_iinc (z := 1) (y := (a3 + 1)) (lv' := [(3, .int (a3 + 1)), (0, .ref a0)]) dX10_text_240 rfl rfl (by decide) rfl (q := 243) rfl ?_
    refine J_goto (tgt := 223) dX10_text_243 (by decide) ?_
    have h := Option.some.inj h
    refine J_pick [1, 0] rfl ?_
    exact hc _ _ h.symm

def fX10_text_w223 (a0 : Nat) (a3 : Int32) (σ : Mm) : Option (Mm) :=
  wh (fun a : Int32 × Mm => fX10_text_l223 a0 a.1 a.2) BIG (a3, σ)
set_option maxRecDepth 20000 in
set_option maxHeartbeats 2000000 in
theorem tX10_text_w223 {X : XS} {n : Nat} {σ : Mm} {F : Nat × Option Value × Mm} {a0 : Nat} {a3 : Int32} (ha0 : RT n a0 110) {res : Mm} (h : fX10_text_w223 a0 a3 σ = some res) (he0 : ∀  (s : Mm), res = s → J X mX10_text 112 0 0 F 246 [(0, .ref a0)] [] n s) : J X mX10_text 112 0 0 F 223 [(0, .ref a0), (3, .int a3)] [] n σ := by
  unfold fX10_text_w223 at h
  refine wh_rule (P := fun a : Int32 × Mm => J X mX10_text 112 0 0 F 223 [(0, .ref a0), (3, .int a.1)] [] n a.2) (K := fun b => b = res) ?_ _ _ _ h rfl
  intro a
  refine ⟨fun a2 hb hP => ?_, fun b hb hK => ?_⟩
  · exact tX10_text_l223 ha0 hb (fun _ _ e => by cases e; exact hP) (fun _ e => by cases e)
  · subst hK
    exact tX10_text_l223 ha0 hb (fun _ _ e => by cases e) (fun v0 e => he0 v0 (Sum.inr.inj e))

def fX10_text_l248 (a0 : Nat) (a3 : Int32) (σ : Mm) : Option ((Int32 × Mm) ⊕ (Mm)) :=
  if 48 ≤ a3 then some (Sum.inr σ) else (gR σ a0 20).bind fun r16 => (gR σ a0 21).bind fun r17 => if ixB a3 (ln r17) = true then if ixB a3 (ln r16) = true then some (Sum.inl ((a3 + 1), (sI σ r16 (Int32.toNatClampNeg a3) (gI σ r17 (Int32.toNatClampNeg a3))))) else none else none
set_option maxRecDepth 20000 in
set_option maxHeartbeats 2000000 in
theorem tX10_text_l248 {X : XS} {n : Nat} {σ : Mm} {F : Nat × Option Value × Mm} {a0 : Nat} {a3 : Int32} (ha0 : RT n a0 110) {res : (Int32 × Mm) ⊕ (Mm)} (h : fX10_text_l248 a0 a3 σ = some res) (hc : ∀ (b3 : Int32) (s : Mm), res = .inl (b3, s) → J X mX10_text 112 0 0 F 248 [(0, .ref a0), (3, .int b3)] [] n s) (he0 : ∀  (s : Mm), res = .inr s → J X mX10_text 112 0 0 F 272 [(0, .ref a0)] [] n s) : J X mX10_text 112 0 0 F 248 [(0, .ref a0), (3, .int a3)] [] n σ := by
  unfold fX10_text_l248 at h
  refine J_iload_n (z := 1) dX10_text_248 rfl rfl (q := 249) rfl ?_
  refine J_bipush (x := 48) dX10_text_249 (by decide) (q := 251) rfl ?_
  refine J_icmp_ge (tgt := 272) dX10_text_251 (by decide) (q := 254) rfl (fun c14 => ?_) (fun c14 => ?_)
  · rw [if_pos c14] at h
    have h := Option.some.inj h
    refine J_pick [0] rfl ?_
    exact he0 _ h.symm
  · rw [if_neg c14] at h
    refine J_aload_n (z := 0) dX10_text_254 rfl rfl (q := 255) rfl ?_
    obtain ⟨r16, er16, h⟩ := bindS h
    refine J_getR dX10_text_255 lRX10_43 ha0 rfl (by decide) er16 (q := 258) rfl (fun fr16 => ?_)
    refine J_iload_n (z := 1) dX10_text_258 rfl rfl (q := 259) rfl ?_
    refine J_aload_n (z := 0) dX10_text_259 rfl rfl (q := 260) rfl ?_
    obtain ⟨r17, er17, h⟩ := bindS h
    refine J_getR dX10_text_260 lRX10_46 ha0 rfl (by decide) er17 (q := 263) rfl (fun fr17 => ?_)
    refine J_iload_n (z := 1) dX10_text_263 rfl rfl (q := 264) rfl ?_
    obtain ⟨g18, h⟩ := iteS h
    refine J_iald dX10_text_264 fr17 (ixB_ok g18) (q := 265) rfl ?_
    obtain ⟨g19, h⟩ := iteS h
    refine J_iast dX10_text_265 fr16 (ixB_ok g19) (q := 266) rfl ?_
    refine J_iinc (z := 1) (y := (a3 + 1)) (lv' := [(3, .int (a3 + 1)), (0, .ref a0)]) dX10_text_266 rfl rfl (by decide) rfl (q := 269) rfl ?_
    refine J_goto (tgt := 248) dX10_text_269 (by decide) ?_
    have h := Option.some.inj h
    refine J_pick [1, 0] rfl ?_
    exact hc _ _ h.symm

def fX10_text_w248 (a0 : Nat) (a3 : Int32) (σ : Mm) : Option (Mm) :=
  wh (fun a : Int32 × Mm => fX10_text_l248 a0 a.1 a.2) BIG (a3, σ)
set_option maxRecDepth 20000 in
set_option maxHeartbeats 2000000 in
theorem tX10_text_w248 {X : XS} {n : Nat} {σ : Mm} {F : Nat × Option Value × Mm} {a0 : Nat} {a3 : Int32} (ha0 : RT n a0 110) {res : Mm} (h : fX10_text_w248 a0 a3 σ = some res) (he0 : ∀  (s : Mm), res = s → J X mX10_text 112 0 0 F 272 [(0, .ref a0)] [] n s) : J X mX10_text 112 0 0 F 248 [(0, .ref a0), (3, .int a3)] [] n σ := by
  unfold fX10_text_w248 at h
  refine wh_rule (P := fun a : Int32 × Mm => J X mX10_text 112 0 0 F 248 [(0, .ref a0), (3, .int a.1)] [] n a.2) (K := fun b => b = res) ?_ _ _ _ h rfl
  intro a
  refine ⟨fun a2 hb hP => ?_, fun b hb hK => ?_⟩
  · exact tX10_text_l248 ha0 hb (fun _ _ e => by cases e; exact hP) (fun _ e => by cases e)
  · subst hK
    exact tX10_text_l248 ha0 hb (fun _ _ e => by cases e) (fun v0 e => he0 v0 (Sum.inr.inj e))

def fX10_text_l274 (a0 : Nat) (a3 : Int32) (σ : Mm) : Option ((Int32 × Mm) ⊕ (Mm)) :=
  if 24 ≤ a3 then some (Sum.inr σ) else (gR σ a0 22).bind fun r22 => (gR σ a0 23).bind fun r23 => if ixB a3 (ln r23) = true then if ixB a3 (ln r22) = true then some (Sum.inl ((a3 + 1), (sI σ r22 (Int32.toNatClampNeg a3) (gI σ r23 (Int32.toNatClampNeg a3))))) else none else none
set_option maxRecDepth 20000 in
set_option maxHeartbeats 2000000 in
theorem tX10_text_l274 {X : XS} {n : Nat} {σ : Mm} {F : Nat × Option Value × Mm} {a0 : Nat} {a3 : Int32} (ha0 : RT n a0 110) {res : (Int32 × Mm) ⊕ (Mm)} (h : fX10_text_l274 a0 a3 σ = some res) (hc : ∀ (b3 : Int32) (s : Mm), res = .inl (b3, s) → J X mX10_text 112 0 0 F 274 [(0, .ref a0), (3, .int b3)] [] n s) (he0 : ∀  (s : Mm), res = .inr s → J X mX10_text 112 0 0 F 298 [(0, .ref a0)] [] n s) : J X mX10_text 112 0 0 F 274 [(0, .ref a0), (3, .int a3)] [] n σ := by
  unfold fX10_text_l274 at h
  refine J_iload_n (z := 1) dX10_text_274 rfl rfl (q := 275) rfl ?_
  refine J_bipush (x := 24) dX10_text_275 (by decide) (q := 277) rfl ?_
  refine J_icmp_ge (tgt := 298) dX10_text_277 (by decide) (q := 280) rfl (fun c20 => ?_) (fun c20 => ?_)
  · rw [if_pos c20] at h
    have h := Option.some.inj h
    refine J_pick [0] rfl ?_
    exact he0 _ h.symm
  · rw [if_neg c20] at h
    refine J_aload_n (z := 0) dX10_text_280 rfl rfl (q := 281) rfl ?_
    obtain ⟨r22, er22, h⟩ := bindS h
    refine J_getR dX10_text_281 lRX10_49 ha0 rfl (by decide) er22 (q := 284) rfl (fun fr22 => ?_)
    refine J_iload_n (z := 1) dX10_text_284 rfl rfl (q := 285) rfl ?_
    refine J_aload_n (z := 0) dX10_text_285 rfl rfl (q := 286) rfl ?_
    obtain ⟨r23, er23, h⟩ := bindS h
    refine J_getR dX10_text_286 lRX10_52 ha0 rfl (by decide) er23 (q := 289) rfl (fun fr23 => ?_)
    refine J_iload_n (z := 1) dX10_text_289 rfl rfl (q := 290) rfl ?_
    obtain ⟨g24, h⟩ := iteS h
    refine J_iald dX10_text_290 fr23 (ixB_ok g24) (q := 291) rfl ?_
    obtain ⟨g25, h⟩ := iteS h
    refine J_iast dX10_text_291 fr22 (ixB_ok g25) (q := 292) rfl ?_
    refine J_iinc (z := 1) (y := (a3 + 1)) (lv' := [(3, .int (a3 + 1)), (0, .ref a0)]) dX10_text_292 rfl rfl (by decide) rfl (q := 295) rfl ?_
    refine J_goto (tgt := 274) dX10_text_295 (by decide) ?_
    have h := Option.some.inj h
    refine J_pick [1, 0] rfl ?_
    exact hc _ _ h.symm

def fX10_text_w274 (a0 : Nat) (a3 : Int32) (σ : Mm) : Option (Mm) :=
  wh (fun a : Int32 × Mm => fX10_text_l274 a0 a.1 a.2) BIG (a3, σ)
set_option maxRecDepth 20000 in
set_option maxHeartbeats 2000000 in
theorem tX10_text_w274 {X : XS} {n : Nat} {σ : Mm} {F : Nat × Option Value × Mm} {a0 : Nat} {a3 : Int32} (ha0 : RT n a0 110) {res : Mm} (h : fX10_text_w274 a0 a3 σ = some res) (he0 : ∀  (s : Mm), res = s → J X mX10_text 112 0 0 F 298 [(0, .ref a0)] [] n s) : J X mX10_text 112 0 0 F 274 [(0, .ref a0), (3, .int a3)] [] n σ := by
  unfold fX10_text_w274 at h
  refine wh_rule (P := fun a : Int32 × Mm => J X mX10_text 112 0 0 F 274 [(0, .ref a0), (3, .int a.1)] [] n a.2) (K := fun b => b = res) ?_ _ _ _ h rfl
  intro a
  refine ⟨fun a2 hb hP => ?_, fun b hb hK => ?_⟩
  · exact tX10_text_l274 ha0 hb (fun _ _ e => by cases e; exact hP) (fun _ e => by cases e)
  · subst hK
    exact tX10_text_l274 ha0 hb (fun _ _ e => by cases e) (fun v0 e => he0 v0 (Sum.inr.inj e))

def fX10_text_l317 (a0 : Nat) (a3 : Int32) (σ : Mm) : Option ((Int32 × Mm) ⊕ (Mm)) :=
  if 351 ≤ a3 then some (Sum.inr σ) else (gR σ a0 33).bind fun r31 => if ixB a3 (ln r31) = true then some (Sum.inl ((a3 + 1), (sI σ r31 (Int32.toNatClampNeg a3) 0))) else none
set_option maxRecDepth 20000 in
set_option maxHeartbeats 2000000 in
theorem tX10_text_l317 {X : XS} {n : Nat} {σ : Mm} {F : Nat × Option Value × Mm} {a0 : Nat} {a3 : Int32} (ha0 : RT n a0 110) {res : (Int32 × Mm) ⊕ (Mm)} (h : fX10_text_l317 a0 a3 σ = some res) (hc : ∀ (b3 : Int32) (s : Mm), res = .inl (b3, s) → J X mX10_text 112 0 0 F 317 [(0, .ref a0), (3, .int b3)] [] n s) (he0 : ∀  (s : Mm), res = .inr s → J X mX10_text 112 0 0 F 337 [(0, .ref a0)] [] n s) : J X mX10_text 112 0 0 F 317 [(0, .ref a0), (3, .int a3)] [] n σ := by
  unfold fX10_text_l317 at h
  refine J_iload_n (z := 1) dX10_text_317 rfl rfl (q := 318) rfl ?_
  refine J_sipush (x := 351) dX10_text_318 (by decide) (q := 321) rfl ?_
  refine J_icmp_ge (tgt := 337) dX10_text_321 (by decide) (q := 324) rfl (fun c29 => ?_) (fun c29 => ?_)
  · rw [if_pos c29] at h
    have h := Option.some.inj h
    refine J_pick [0] rfl ?_
    exact he0 _ h.symm
  · rw [if_neg c29] at h
    refine J_aload_n (z := 0) dX10_text_324 rfl rfl (q := 325) rfl ?_
    obtain ⟨r31, er31, h⟩ := bindS h
    refine J_getR dX10_text_325 lRX10_61 ha0 rfl (by decide) er31 (q := 328) rfl (fun fr31 => ?_)
    refine J_iload_n (z := 1) dX10_text_328 rfl rfl (q := 329) rfl ?_
    refine J_iconst (x := 0) dX10_text_329 (by decide) (q := 330) rfl ?_
    obtain ⟨g32, h⟩ := iteS h
    refine J_iast dX10_text_330 fr31 (ixB_ok g32) (q := 331) rfl ?_
    refine J_iinc (z := 1) (y := (a3 + 1)) (lv' := [(3, .int (a3 + 1)), (0, .ref a0)]) dX10_text_331 rfl rfl (by decide) rfl (q := 334) rfl ?_
    refine J_goto (tgt := 317) dX10_text_334 (by decide) ?_
    have h := Option.some.inj h
    refine J_pick [1, 0] rfl ?_
    exact hc _ _ h.symm

def fX10_text_w317 (a0 : Nat) (a3 : Int32) (σ : Mm) : Option (Mm) :=
  wh (fun a : Int32 × Mm => fX10_text_l317 a0 a.1 a.2) BIG (a3, σ)
set_option maxRecDepth 20000 in
set_option maxHeartbeats 2000000 in
theorem tX10_text_w317 {X : XS} {n : Nat} {σ : Mm} {F : Nat × Option Value × Mm} {a0 : Nat} {a3 : Int32} (ha0 : RT n a0 110) {res : Mm} (h : fX10_text_w317 a0 a3 σ = some res) (he0 : ∀  (s : Mm), res = s → J X mX10_text 112 0 0 F 337 [(0, .ref a0)] [] n s) : J X mX10_text 112 0 0 F 317 [(0, .ref a0), (3, .int a3)] [] n σ := by
  unfold fX10_text_w317 at h
  refine wh_rule (P := fun a : Int32 × Mm => J X mX10_text 112 0 0 F 317 [(0, .ref a0), (3, .int a.1)] [] n a.2) (K := fun b => b = res) ?_ _ _ _ h rfl
  intro a
  refine ⟨fun a2 hb hP => ?_, fun b hb hK => ?_⟩
  · exact tX10_text_l317 ha0 hb (fun _ _ e => by cases e; exact hP) (fun _ e => by cases e)
  · subst hK
    exact tX10_text_l317 ha0 hb (fun _ _ e => by cases e) (fun v0 e => he0 v0 (Sum.inr.inj e))

def fX10_text_l339 (a0 : Nat) (a3 : Int32) (σ : Mm) : Option ((Int32 × Mm) ⊕ (Mm)) :=
  if (gI σ a0 27) ≤ a3 then some (Sum.inr σ) else (gR σ a0 33).bind fun r35 => (gR σ a0 20).bind fun r36 => if ixB ((4 * a3) + 1) (ln r36) = true then if ixB (2 * a3) (ln r35) = true then if ixB ((4 * a3) + 3) (ln r36) = true then if ixB ((2 * a3) + 1) (ln r35) = true then some (Sum.inl ((a3 + 1), (sI (sI σ r35 (Int32.toNatClampNeg (2 * a3)) (gI σ r36 (Int32.toNatClampNeg ((4 * a3) + 1)))) r35 (Int32.toNatClampNeg ((2 * a3) + 1)) (gI (sI σ r35 (Int32.toNatClampNeg (2 * a3)) (gI σ r36 (Int32.toNatClampNeg ((4 * a3) + 1)))) r36 (Int32.toNatClampNeg ((4 * a3) + 3)))))) else none else none else none else none
set_option maxRecDepth 20000 in
set_option maxHeartbeats 2000000 in
theorem tX10_text_l339 {X : XS} {n : Nat} {σ : Mm} {F : Nat × Option Value × Mm} {a0 : Nat} {a3 : Int32} (ha0 : RT n a0 110) {res : (Int32 × Mm) ⊕ (Mm)} (h : fX10_text_l339 a0 a3 σ = some res) (hc : ∀ (b3 : Int32) (s : Mm), res = .inl (b3, s) → J X mX10_text 112 0 0 F 339 [(0, .ref a0), (3, .int b3)] [] n s) (he0 : ∀  (s : Mm), res = .inr s → J X mX10_text 112 0 0 F 391 [(0, .ref a0)] [] n s) : J X mX10_text 112 0 0 F 339 [(0, .ref a0), (3, .int a3)] [] n σ := by
  unfold fX10_text_l339 at h
  refine J_iload_n (z := 1) dX10_text_339 rfl rfl (q := 340) rfl ?_
  refine J_aload_n (z := 0) dX10_text_340 rfl rfl (q := 341) rfl ?_
  refine J_getI dX10_text_341 lRX10_291 ha0 rfl (q := 344) rfl ?_
  refine J_icmp_ge (tgt := 391) dX10_text_344 (by decide) (q := 347) rfl (fun c33 => ?_) (fun c33 => ?_)
  · rw [if_pos c33] at h
    have h := Option.some.inj h
    refine J_pick [0] rfl ?_
    exact he0 _ h.symm
  · rw [if_neg c33] at h
    refine J_aload_n (z := 0) dX10_text_347 rfl rfl (q := 348) rfl ?_
    obtain ⟨r35, er35, h⟩ := bindS h
    refine J_getR dX10_text_348 lRX10_61 ha0 rfl (by decide) er35 (q := 351) rfl (fun fr35 => ?_)
    refine J_iconst (x := 2) dX10_text_351 (by decide) (q := 352) rfl ?_
    refine J_iload_n (z := 1) dX10_text_352 rfl rfl (q := 353) rfl ?_
    refine J_imul dX10_text_353  (q := 354) rfl ?_
    refine J_aload_n (z := 0) dX10_text_354 rfl rfl (q := 355) rfl ?_
    obtain ⟨r36, er36, h⟩ := bindS h
    refine J_getR dX10_text_355 lRX10_43 ha0 rfl (by decide) er36 (q := 358) rfl (fun fr36 => ?_)
    refine J_iconst (x := 4) dX10_text_358 (by decide) (q := 359) rfl ?_
    refine J_iload_n (z := 1) dX10_text_359 rfl rfl (q := 360) rfl ?_
    refine J_imul dX10_text_360  (q := 361) rfl ?_
    refine J_iconst (x := 1) dX10_text_361 (by decide) (q := 362) rfl ?_
    refine J_iadd dX10_text_362  (q := 363) rfl ?_
    obtain ⟨g37, h⟩ := iteS h
    refine J_iald dX10_text_363 fr36 (ixB_ok g37) (q := 364) rfl ?_
    obtain ⟨g38, h⟩ := iteS h
    refine J_iast dX10_text_364 fr35 (ixB_ok g38) (q := 365) rfl ?_
    refine J_aload_n (z := 0) dX10_text_365 rfl rfl (q := 366) rfl ?_
    refine J_getR dX10_text_366 lRX10_61 ha0 rfl (by decide) er35 (q := 369) rfl (fun _ => ?_)
    refine J_iconst (x := 2) dX10_text_369 (by decide) (q := 370) rfl ?_
    refine J_iload_n (z := 1) dX10_text_370 rfl rfl (q := 371) rfl ?_
    refine J_imul dX10_text_371  (q := 372) rfl ?_
    refine J_iconst (x := 1) dX10_text_372 (by decide) (q := 373) rfl ?_
    refine J_iadd dX10_text_373  (q := 374) rfl ?_
    refine J_aload_n (z := 0) dX10_text_374 rfl rfl (q := 375) rfl ?_
    refine J_getR dX10_text_375 lRX10_43 ha0 rfl (by decide) er36 (q := 378) rfl (fun _ => ?_)
    refine J_iconst (x := 4) dX10_text_378 (by decide) (q := 379) rfl ?_
    refine J_iload_n (z := 1) dX10_text_379 rfl rfl (q := 380) rfl ?_
    refine J_imul dX10_text_380  (q := 381) rfl ?_
    refine J_iconst (x := 3) dX10_text_381 (by decide) (q := 382) rfl ?_
    refine J_iadd dX10_text_382  (q := 383) rfl ?_
    obtain ⟨g39, h⟩ := iteS h
    refine J_iald dX10_text_383 fr36 (ixB_ok g39) (q := 384) rfl ?_
    obtain ⟨g40, h⟩ := iteS h
    refine J_iast dX10_text_384 fr35 (ixB_ok g40) (q := 385) rfl ?_
    refine J_iinc (z := 1) (y := (a3 + 1)) (lv' := [(3, .int (a3 + 1)), (0, .ref a0)]) dX10_text_385 rfl rfl (by decide) rfl (q := 388) rfl ?_
    refine J_goto (tgt := 339) dX10_text_388 (by decide) ?_
    have h := Option.some.inj h
    refine J_pick [1, 0] rfl ?_
    exact hc _ _ h.symm

def fX10_text_w339 (a0 : Nat) (a3 : Int32) (σ : Mm) : Option (Mm) :=
  wh (fun a : Int32 × Mm => fX10_text_l339 a0 a.1 a.2) BIG (a3, σ)
set_option maxRecDepth 20000 in
set_option maxHeartbeats 2000000 in
theorem tX10_text_w339 {X : XS} {n : Nat} {σ : Mm} {F : Nat × Option Value × Mm} {a0 : Nat} {a3 : Int32} (ha0 : RT n a0 110) {res : Mm} (h : fX10_text_w339 a0 a3 σ = some res) (he0 : ∀  (s : Mm), res = s → J X mX10_text 112 0 0 F 391 [(0, .ref a0)] [] n s) : J X mX10_text 112 0 0 F 339 [(0, .ref a0), (3, .int a3)] [] n σ := by
  unfold fX10_text_w339 at h
  refine wh_rule (P := fun a : Int32 × Mm => J X mX10_text 112 0 0 F 339 [(0, .ref a0), (3, .int a.1)] [] n a.2) (K := fun b => b = res) ?_ _ _ _ h rfl
  intro a
  refine ⟨fun a2 hb hP => ?_, fun b hb hK => ?_⟩
  · exact tX10_text_l339 ha0 hb (fun _ _ e => by cases e; exact hP) (fun _ e => by cases e)
  · subst hK
    exact tX10_text_l339 ha0 hb (fun _ _ e => by cases e) (fun v0 e => he0 v0 (Sum.inr.inj e))

def fX10_text_l393 (a0 : Nat) (a3 : Int32) (σ : Mm) : Option ((Int32 × Mm) ⊕ (Mm)) :=
  if (gI σ a0 28) ≤ a3 then some (Sum.inr σ) else (gR σ a0 33).bind fun r43 => (gR σ a0 22).bind fun r44 => if ixB (4 * a3) (ln r44) = true then if ixB (24 + (14 * a3)) (ln r43) = true then some (Sum.inl ((a3 + 1), (sI σ r43 (Int32.toNatClampNeg (24 + (14 * a3))) (gI σ r44 (Int32.toNatClampNeg (4 * a3)))))) else none else none
set_option maxRecDepth 20000 in
set_option maxHeartbeats 2000000 in
theorem tX10_text_l393 {X : XS} {n : Nat} {σ : Mm} {F : Nat × Option Value × Mm} {a0 : Nat} {a3 : Int32} (ha0 : RT n a0 110) {res : (Int32 × Mm) ⊕ (Mm)} (h : fX10_text_l393 a0 a3 σ = some res) (hc : ∀ (b3 : Int32) (s : Mm), res = .inl (b3, s) → J X mX10_text 112 0 0 F 393 [(0, .ref a0), (3, .int b3)] [] n s) (he0 : ∀  (s : Mm), res = .inr s → J X mX10_text 112 0 0 F 427 [(0, .ref a0)] [] n s) : J X mX10_text 112 0 0 F 393 [(0, .ref a0), (3, .int a3)] [] n σ := by
  unfold fX10_text_l393 at h
  refine J_iload_n (z := 1) dX10_text_393 rfl rfl (q := 394) rfl ?_
  refine J_aload_n (z := 0) dX10_text_394 rfl rfl (q := 395) rfl ?_
  refine J_getI dX10_text_395 lRX10_294 ha0 rfl (q := 398) rfl ?_
  refine J_icmp_ge (tgt := 427) dX10_text_398 (by decide) (q := 401) rfl (fun c41 => ?_) (fun c41 => ?_)
  · rw [if_pos c41] at h
    have h := Option.some.inj h
    refine J_pick [0] rfl ?_
    exact he0 _ h.symm
  · rw [if_neg c41] at h
    refine J_aload_n (z := 0) dX10_text_401 rfl rfl (q := 402) rfl ?_
    obtain ⟨r43, er43, h⟩ := bindS h
    refine J_getR dX10_text_402 lRX10_61 ha0 rfl (by decide) er43 (q := 405) rfl (fun fr43 => ?_)
    refine J_bipush (x := 24) dX10_text_405 (by decide) (q := 407) rfl ?_
    refine J_bipush (x := 14) dX10_text_407 (by decide) (q := 409) rfl ?_
    refine J_iload_n (z := 1) dX10_text_409 rfl rfl (q := 410) rfl ?_
    refine J_imul dX10_text_410  (q := 411) rfl ?_
    refine J_iadd dX10_text_411  (q := 412) rfl ?_
    refine J_aload_n (z := 0) dX10_text_412 rfl rfl (q := 413) rfl ?_
    obtain ⟨r44, er44, h⟩ := bindS h
    refine J_getR dX10_text_413 lRX10_49 ha0 rfl (by decide) er44 (q := 416) rfl (fun fr44 => ?_)
    refine J_iconst (x := 4) dX10_text_416 (by decide) (q := 417) rfl ?_
    refine J_iload_n (z := 1) dX10_text_417 rfl rfl (q := 418) rfl ?_
    refine J_imul dX10_text_418  (q := 419) rfl ?_
    obtain ⟨g45, h⟩ := iteS h
    refine J_iald dX10_text_419 fr44 (ixB_ok g45) (q := 420) rfl ?_
    obtain ⟨g46, h⟩ := iteS h
    refine J_iast dX10_text_420 fr43 (ixB_ok g46) (q := 421) rfl ?_
    refine J_iinc (z := 1) (y := (a3 + 1)) (lv' := [(3, .int (a3 + 1)), (0, .ref a0)]) dX10_text_421 rfl rfl (by decide) rfl (q := 424) rfl ?_
    refine J_goto (tgt := 393) dX10_text_424 (by decide) ?_
    have h := Option.some.inj h
    refine J_pick [1, 0] rfl ?_
    exact hc _ _ h.symm

def fX10_text_w393 (a0 : Nat) (a3 : Int32) (σ : Mm) : Option (Mm) :=
  wh (fun a : Int32 × Mm => fX10_text_l393 a0 a.1 a.2) BIG (a3, σ)
set_option maxRecDepth 20000 in
set_option maxHeartbeats 2000000 in
theorem tX10_text_w393 {X : XS} {n : Nat} {σ : Mm} {F : Nat × Option Value × Mm} {a0 : Nat} {a3 : Int32} (ha0 : RT n a0 110) {res : Mm} (h : fX10_text_w393 a0 a3 σ = some res) (he0 : ∀  (s : Mm), res = s → J X mX10_text 112 0 0 F 427 [(0, .ref a0)] [] n s) : J X mX10_text 112 0 0 F 393 [(0, .ref a0), (3, .int a3)] [] n σ := by
  unfold fX10_text_w393 at h
  refine wh_rule (P := fun a : Int32 × Mm => J X mX10_text 112 0 0 F 393 [(0, .ref a0), (3, .int a.1)] [] n a.2) (K := fun b => b = res) ?_ _ _ _ h rfl
  intro a
  refine ⟨fun a2 hb hP => ?_, fun b hb hK => ?_⟩
  · exact tX10_text_l393 ha0 hb (fun _ _ e => by cases e; exact hP) (fun _ e => by cases e)
  · subst hK
    exact tX10_text_l393 ha0 hb (fun _ _ e => by cases e) (fun v0 e => he0 v0 (Sum.inr.inj e))

def fX10_text_l137 (a0 : Nat) (a3 : Int32) (σ : Mm) : Option ((Int32 × Mm) ⊕ (Mm)) :=
  if 48 ≤ a3 then some (Sum.inr σ) else (gR σ a0 24).bind fun r53 => if ixB (192 + a3) (ln r53) = true then if ixB ((48 * (gI σ a0 31)) + a3) (ln r53) = true then some (Sum.inl ((a3 + 1), (sI σ r53 (Int32.toNatClampNeg ((48 * (gI σ a0 31)) + a3)) (gI σ r53 (Int32.toNatClampNeg (192 + a3)))))) else none else none
set_option maxRecDepth 20000 in
set_option maxHeartbeats 2000000 in
theorem tX10_text_l137 {X : XS} {n : Nat} {σ : Mm} {F : Nat × Option Value × Mm} {a0 : Nat} {a3 : Int32} (ha0 : RT n a0 110) {res : (Int32 × Mm) ⊕ (Mm)} (h : fX10_text_l137 a0 a3 σ = some res) (hc : ∀ (b3 : Int32) (s : Mm), res = .inl (b3, s) → J X mX10_text 112 0 0 F 137 [(0, .ref a0), (3, .int b3)] [] n s) (he0 : ∀  (s : Mm), res = .inr s → J X mX10_text 112 0 0 F 173 [(0, .ref a0)] [] n s) : J X mX10_text 112 0 0 F 137 [(0, .ref a0), (3, .int a3)] [] n σ := by
  unfold fX10_text_l137 at h
  refine J_iload_n (z := 1) dX10_text_137 rfl rfl (q := 138) rfl ?_
  refine J_bipush (x := 48) dX10_text_138 (by decide) (q := 140) rfl ?_
  refine J_icmp_ge (tgt := 173) dX10_text_140 (by decide) (q := 143) rfl (fun c51 => ?_) (fun c51 => ?_)
  · rw [if_pos c51] at h
    have h := Option.some.inj h
    refine J_pick [0] rfl ?_
    exact he0 _ h.symm
  · rw [if_neg c51] at h
    refine J_aload_n (z := 0) dX10_text_143 rfl rfl (q := 144) rfl ?_
    obtain ⟨r53, er53, h⟩ := bindS h
    refine J_getR dX10_text_144 lRX10_55 ha0 rfl (by decide) er53 (q := 147) rfl (fun fr53 => ?_)
    refine J_bipush (x := 48) dX10_text_147 (by decide) (q := 149) rfl ?_
    refine J_aload_n (z := 0) dX10_text_149 rfl rfl (q := 150) rfl ?_
    refine J_getI dX10_text_150 lRX10_286 ha0 rfl (q := 153) rfl ?_
    refine J_imul dX10_text_153  (q := 154) rfl ?_
    refine J_iload_n (z := 1) dX10_text_154 rfl rfl (q := 155) rfl ?_
    refine J_iadd dX10_text_155  (q := 156) rfl ?_
    refine J_aload_n (z := 0) dX10_text_156 rfl rfl (q := 157) rfl ?_
    refine J_getR dX10_text_157 lRX10_55 ha0 rfl (by decide) er53 (q := 160) rfl (fun _ => ?_)
    refine J_sipush (x := 192) dX10_text_160 (by decide) (q := 163) rfl ?_
    refine J_iload_n (z := 1) dX10_text_163 rfl rfl (q := 164) rfl ?_
    refine J_iadd dX10_text_164  (q := 165) rfl ?_
    obtain ⟨g54, h⟩ := iteS h
    refine J_iald dX10_text_165 fr53 (ixB_ok g54) (q := 166) rfl ?_
    obtain ⟨g55, h⟩ := iteS h
    refine J_iast dX10_text_166 fr53 (ixB_ok g55) (q := 167) rfl ?_
    refine J_iinc (z := 1) (y := (a3 + 1)) (lv' := [(3, .int (a3 + 1)), (0, .ref a0)]) dX10_text_167 rfl rfl (by decide) rfl (q := 170) rfl ?_
    refine J_goto (tgt := 137) dX10_text_170 (by decide) ?_
    have h := Option.some.inj h
    refine J_pick [1, 0] rfl ?_
    exact hc _ _ h.symm

def fX10_text_w137 (a0 : Nat) (a3 : Int32) (σ : Mm) : Option (Mm) :=
  wh (fun a : Int32 × Mm => fX10_text_l137 a0 a.1 a.2) BIG (a3, σ)
set_option maxRecDepth 20000 in
set_option maxHeartbeats 2000000 in
theorem tX10_text_w137 {X : XS} {n : Nat} {σ : Mm} {F : Nat × Option Value × Mm} {a0 : Nat} {a3 : Int32} (ha0 : RT n a0 110) {res : Mm} (h : fX10_text_w137 a0 a3 σ = some res) (he0 : ∀  (s : Mm), res = s → J X mX10_text 112 0 0 F 173 [(0, .ref a0)] [] n s) : J X mX10_text 112 0 0 F 137 [(0, .ref a0), (3, .int a3)] [] n σ := by
  unfold fX10_text_w137 at h
  refine wh_rule (P := fun a : Int32 × Mm => J X mX10_text 112 0 0 F 137 [(0, .ref a0), (3, .int a.1)] [] n a.2) (K := fun b => b = res) ?_ _ _ _ h rfl
  intro a
  refine ⟨fun a2 hb hP => ?_, fun b hb hK => ?_⟩
  · exact tX10_text_l137 ha0 hb (fun _ _ e => by cases e; exact hP) (fun _ e => by cases e)
  · subst hK
    exact tX10_text_l137 ha0 hb (fun _ _ e => by cases e) (fun v0 e => he0 v0 (Sum.inr.inj e))

def fX10_text_l71 (a0 : Nat) (a2 : Int32) (a3 : Int32) (σ : Mm) : Option ((Int32 × Mm) ⊕ (Mm)) :=
  if a2 ≤ a3 then some (Sum.inr σ) else (gR σ a0 2).bind fun r61 => (gR σ a0 1).bind fun r62 => if ixB a3 (ln r62) = true then if ixB ((240 * (gI σ a0 7)) + a3) (ln r61) = true then some (Sum.inl ((a3 + 1), (sI σ r61 (Int32.toNatClampNeg ((240 * (gI σ a0 7)) + a3)) (byI (gI σ r62 (Int32.toNatClampNeg a3)))))) else none else none
set_option maxRecDepth 20000 in
set_option maxHeartbeats 2000000 in
theorem tX10_text_l71 {X : XS} {n : Nat} {σ : Mm} {F : Nat × Option Value × Mm} {a0 : Nat} {a2 : Int32} {a3 : Int32} (ha0 : RT n a0 110) {res : (Int32 × Mm) ⊕ (Mm)} (h : fX10_text_l71 a0 a2 a3 σ = some res) (hc : ∀ (b3 : Int32) (s : Mm), res = .inl (b3, s) → J X mX10_text 112 0 0 F 71 [(0, .ref a0), (2, .int a2), (3, .int b3)] [] n s) (he0 : ∀  (s : Mm), res = .inr s → J X mX10_text 112 0 0 F 103 [(0, .ref a0), (2, .int a2)] [] n s) : J X mX10_text 112 0 0 F 71 [(0, .ref a0), (2, .int a2), (3, .int a3)] [] n σ := by
  unfold fX10_text_l71 at h
  refine J_iload_n (z := 2) dX10_text_71 rfl rfl (q := 72) rfl ?_
  refine J_iload_n (z := 1) dX10_text_72 rfl rfl (q := 73) rfl ?_
  refine J_icmp_ge (tgt := 103) dX10_text_73 (by decide) (q := 76) rfl (fun c59 => ?_) (fun c59 => ?_)
  · rw [if_pos c59] at h
    have h := Option.some.inj h
    refine J_pick [0, 1] rfl ?_
    exact he0 _ h.symm
  · rw [if_neg c59] at h
    refine J_aload_n (z := 0) dX10_text_76 rfl rfl (q := 77) rfl ?_
    obtain ⟨r61, er61, h⟩ := bindS h
    refine J_getR dX10_text_77 lRX10_13 ha0 rfl (by decide) er61 (q := 80) rfl (fun fr61 => ?_)
    refine J_sipush (x := 240) dX10_text_80 (by decide) (q := 83) rfl ?_
    refine J_aload_n (z := 0) dX10_text_83 rfl rfl (q := 84) rfl ?_
    refine J_getI dX10_text_84 lRX10_283 ha0 rfl (q := 87) rfl ?_
    refine J_imul dX10_text_87  (q := 88) rfl ?_
    refine J_iload_n (z := 2) dX10_text_88 rfl rfl (q := 89) rfl ?_
    refine J_iadd dX10_text_89  (q := 90) rfl ?_
    refine J_aload_n (z := 0) dX10_text_90 rfl rfl (q := 91) rfl ?_
    obtain ⟨r62, er62, h⟩ := bindS h
    refine J_getR dX10_text_91 lRX10_9 ha0 rfl (by decide) er62 (q := 94) rfl (fun fr62 => ?_)
    refine J_iload_n (z := 2) dX10_text_94 rfl rfl (q := 95) rfl ?_
    obtain ⟨g63, h⟩ := iteS h
    refine J_bald dX10_text_95 fr62 (ixB_ok g63) (q := 96) rfl ?_
    obtain ⟨g64, h⟩ := iteS h
    refine J_bast dX10_text_96 fr61 (ixB_ok g64) (q := 97) rfl ?_
    refine J_iinc (z := 2) (y := (a3 + 1)) (lv' := [(3, .int (a3 + 1)), (0, .ref a0), (2, .int a2)]) dX10_text_97 rfl rfl (by decide) rfl (q := 100) rfl ?_
    refine J_goto (tgt := 71) dX10_text_100 (by decide) ?_
    have h := Option.some.inj h
    refine J_pick [1, 2, 0] rfl ?_
    exact hc _ _ h.symm

def fX10_text_w71 (a0 : Nat) (a2 : Int32) (a3 : Int32) (σ : Mm) : Option (Mm) :=
  wh (fun a : Int32 × Mm => fX10_text_l71 a0 a2 a.1 a.2) BIG (a3, σ)
set_option maxRecDepth 20000 in
set_option maxHeartbeats 2000000 in
theorem tX10_text_w71 {X : XS} {n : Nat} {σ : Mm} {F : Nat × Option Value × Mm} {a0 : Nat} {a2 : Int32} {a3 : Int32} (ha0 : RT n a0 110) {res : Mm} (h : fX10_text_w71 a0 a2 a3 σ = some res) (he0 : ∀  (s : Mm), res = s → J X mX10_text 112 0 0 F 103 [(0, .ref a0), (2, .int a2)] [] n s) : J X mX10_text 112 0 0 F 71 [(0, .ref a0), (2, .int a2), (3, .int a3)] [] n σ := by
  unfold fX10_text_w71 at h
  refine wh_rule (P := fun a : Int32 × Mm => J X mX10_text 112 0 0 F 71 [(0, .ref a0), (2, .int a2), (3, .int a.1)] [] n a.2) (K := fun b => b = res) ?_ _ _ _ h rfl
  intro a
  refine ⟨fun a2 hb hP => ?_, fun b hb hK => ?_⟩
  · exact tX10_text_l71 ha0 hb (fun _ _ e => by cases e; exact hP) (fun _ e => by cases e)
  · subst hK
    exact tX10_text_l71 ha0 hb (fun _ _ e => by cases e) (fun v0 e => he0 v0 (Sum.inr.inj e))

def fX10_text_b43 (a0 : Nat) (a1 : Int32) (σ : Mm) : Option (Int32 × Mm) :=
  bnd2 (fX10_fault a0 a1 σ) fun vk5 sk5 => if vk5 = (-1) then if a1 = 1 then (fX10_text_w71 a0 (gI sk5 a0 6) 0 (sI sk5 a0 6 0)).bind (fun o65 => (fun so65 => (gR so65 a0 3).bind fun r66 => if ixB (gI so65 a0 7) (ln r66) = true then some (((gI (sI (sI so65 r66 (Int32.toNatClampNeg (gI so65 a0 7)) (gI sk5 a0 6)) a0 7 ((gI (sI so65 r66 (Int32.toNatClampNeg (gI so65 a0 7)) (gI sk5 a0 6)) a0 7) + 1)) a0 7) - 1), (sI (sI so65 r66 (Int32.toNatClampNeg (gI so65 a0 7)) (gI sk5 a0 6)) a0 7 ((gI (sI so65 r66 (Int32.toNatClampNeg (gI so65 a0 7)) (gI sk5 a0 6)) a0 7) + 1))) else none) o65) else if a1 = 2 then (fX10_text_w137 a0 0 (sI sk5 a0 6 0)).bind (fun o56 => (fun so56 => (gR so56 a0 25).bind fun r57 => if ixB 4 (ln r57) = true then if ixB (gI so56 a0 31) (ln r57) = true then some (((gI (sI (sI so56 r57 (Int32.toNatClampNeg (gI so56 a0 31)) (gI so56 r57 (Int32.toNatClampNeg 4))) a0 31 ((gI (sI so56 r57 (Int32.toNatClampNeg (gI so56 a0 31)) (gI so56 r57 (Int32.toNatClampNeg 4))) a0 31) + 1)) a0 31) - 1), (sI (sI so56 r57 (Int32.toNatClampNeg (gI so56 a0 31)) (gI so56 r57 (Int32.toNatClampNeg 4))) a0 31 ((gI (sI so56 r57 (Int32.toNatClampNeg (gI so56 a0 31)) (gI so56 r57 (Int32.toNatClampNeg 4))) a0 31) + 1))) else none else none) o56) else (fX10_text_w223 a0 0 (sI (sI (sI sk5 a0 6 0) a0 27 (gI (sI sk5 a0 6 0) a0 29)) a0 28 (gI (sI (sI sk5 a0 6 0) a0 27 (gI (sI sk5 a0 6 0) a0 29)) a0 30))).bind (fun o14 => (fun so14 => (fX10_text_w248 a0 0 so14).bind (fun o20 => (fun so20 => (fX10_text_w274 a0 0 so20).bind (fun o26 => (fun so26 => (gR so26 a0 18).bind fun r27 => if ixB 0 (ln r27) = true then if ixB 1 (ln r27) = true then (fX10_text_w317 a0 0 (sI so26 a0 26 ((gI so26 r27 (Int32.toNatClampNeg 0)) * (gI so26 r27 (Int32.toNatClampNeg 1))))).bind (fun o33 => (fun so33 => (fX10_text_w339 a0 0 so33).bind (fun o41 => (fun so41 => (fX10_text_w393 a0 0 so41).bind (fun o47 => (fun so47 => (gR so47 a0 33).bind fun r48 => (gR so47 a0 18).bind fun r49 => if ixB 2 (ln r49) = true then if ixB 108 (ln r48) = true then some ((gI (sI (sI (sI so47 r48 (Int32.toNatClampNeg 108) (gI so47 r49 (Int32.toNatClampNeg 2))) a0 42 0) a0 51 0) a0 27), (sI (sI (sI so47 r48 (Int32.toNatClampNeg 108) (gI so47 r49 (Int32.toNatClampNeg 2))) a0 42 0) a0 51 0)) else none else none) o47)) o41)) o33) else none else none) o26)) o20)) o14) else some ((-1), sk5)
set_option maxRecDepth 20000 in
set_option maxHeartbeats 2000000 in
theorem tX10_text_b43 {X : XS} {n : Nat} {σ : Mm} {a0 : Nat} {a1 : Int32} (ha0 : RT n a0 110) {res : Int32 × Mm} (h : fX10_text_b43 a0 a1 σ = some res) : J X mX10_text 112 0 0 (n, some (.int res.1), res.2) 43 [(0, .ref a0), (1, .int a1)] [] n σ := by
  unfold fX10_text_b43 at h
  refine J_aload_n (z := 0) dX10_text_43 rfl rfl (q := 44) rfl ?_
  refine J_iload_n (z := 1) dX10_text_44 rfl rfl (q := 45) rfl ?_
  obtain ⟨vk5, sk5, hk5, h⟩ := bnd2S h
  refine J_cVi (as := [.int a1]) dX10_text_45 mRX10_289 ha0 (tX10_fault ha0 hk5) rfl (Nat.le_of_ble_eq_true rfl) (Nat.le_of_ble_eq_true rfl) (Nat.le_of_ble_eq_true rfl) (q := 48) rfl ?_
  intro bk5
  refine J_iconst (x := (-1)) dX10_text_48 (by decide) (q := 49) rfl ?_
  refine J_icmp_eq (tgt := 54) dX10_text_49 (by decide) (q := 52) rfl (fun c5 => ?_) (fun c5 => ?_)
  · rw [if_pos c5] at h
    refine J_aload_n (z := 0) dX10_text_54 rfl rfl (q := 55) rfl ?_
    refine J_getI dX10_text_55 lRX10_109 ha0 rfl (q := 58) rfl ?_
    refine J_istore_n (lv' := [(2, .int (gI sk5 a0 6)), (0, .ref a0), (1, .int a1)]) dX10_text_58 rfl (by decide) rfl (q := 59) rfl ?_
    refine J_aload_n (z := 1) dX10_text_59 rfl rfl (q := 60) rfl ?_
    refine J_iconst (x := 0) dX10_text_60 (by decide) (q := 61) rfl ?_
    refine J_putI dX10_text_61 lRX10_109 (fun h => by cases h) ha0 rfl (q := 64) rfl ?_
    refine J_iload_n (z := 2) dX10_text_64 rfl rfl (q := 65) rfl ?_
    refine J_iconst (x := 1) dX10_text_65 (by decide) (q := 66) rfl ?_
    refine J_icmp_ne (tgt := 130) dX10_text_66 (by decide) (q := 69) rfl (fun c6 => ?_) (fun c6 => ?_)
    · rw [if_neg c6] at h
      refine J_iload_n (z := 2) dX10_text_130 rfl rfl (q := 131) rfl ?_
      refine J_iconst (x := 2) dX10_text_131 (by decide) (q := 132) rfl ?_
      refine J_icmp_ne (tgt := 205) dX10_text_132 (by decide) (q := 135) rfl (fun c7 => ?_) (fun c7 => ?_)
      · rw [if_neg c7] at h
        refine J_aload_n (z := 1) dX10_text_205 rfl rfl (q := 206) rfl ?_
        refine J_aload_n (z := 1) dX10_text_206 rfl rfl (q := 207) rfl ?_
        refine J_getI dX10_text_207 lRX10_245 ha0 rfl (q := 210) rfl ?_
        refine J_putI dX10_text_210 lRX10_291 (fun h => by cases h) ha0 rfl (q := 213) rfl ?_
        refine J_aload_n (z := 1) dX10_text_213 rfl rfl (q := 214) rfl ?_
        refine J_aload_n (z := 1) dX10_text_214 rfl rfl (q := 215) rfl ?_
        refine J_getI dX10_text_215 lRX10_248 ha0 rfl (q := 218) rfl ?_
        refine J_putI dX10_text_218 lRX10_294 (fun h => by cases h) ha0 rfl (q := 221) rfl ?_
        refine J_iconst (x := 0) dX10_text_221 (by decide) (q := 222) rfl ?_
        refine J_istore_n (lv' := [(3, .int 0), (2, .int (gI sk5 a0 6)), (0, .ref a0), (1, .int a1)]) dX10_text_222 rfl (by decide) rfl (q := 223) rfl ?_
        obtain ⟨o14, hlo14, h⟩ := bindS h
        refine J_pick [2, 0] rfl ?_
        refine tX10_text_w223 ha0 hlo14 ?_
        · intro so14 qo14
          rw [qo14] at h
          try dsimp only [Sum.elim_inl, Sum.elim_inr] at h
          refine J_iconst (x := 0) dX10_text_246 (by decide) (q := 247) rfl ?_
          refine J_istore_n (lv' := [(3, .int 0), (0, .ref a0)]) dX10_text_247 rfl (by decide) rfl (q := 248) rfl ?_
          obtain ⟨o20, hlo20, h⟩ := bindS h
          refine J_pick [1, 0] rfl ?_
          refine tX10_text_w248 ha0 hlo20 ?_
          · intro so20 qo20
            rw [qo20] at h
            try dsimp only [Sum.elim_inl, Sum.elim_inr] at h
            refine J_iconst (x := 0) dX10_text_272 (by decide) (q := 273) rfl ?_
            refine J_istore_n (lv' := [(3, .int 0), (0, .ref a0)]) dX10_text_273 rfl (by decide) rfl (q := 274) rfl ?_
            obtain ⟨o26, hlo26, h⟩ := bindS h
            refine J_pick [1, 0] rfl ?_
            refine tX10_text_w274 ha0 hlo26 ?_
            · intro so26 qo26
              rw [qo26] at h
              try dsimp only [Sum.elim_inl, Sum.elim_inr] at h
              refine J_aload_n (z := 0) dX10_text_298 rfl rfl (q := 299) rfl ?_
              refine J_aload_n (z := 0) dX10_text_299 rfl rfl (q := 300) rfl ?_
              obtain ⟨r27, er27, h⟩ := bindS h
              refine J_getR dX10_text_300 lRX10_37 ha0 rfl (by decide) er27 (q := 303) rfl (fun fr27 => ?_)
              refine J_iconst (x := 0) dX10_text_303 (by decide) (q := 304) rfl ?_
              obtain ⟨g28, h⟩ := iteS h
              refine J_iald dX10_text_304 fr27 (ixB_ok g28) (q := 305) rfl ?_
              refine J_aload_n (z := 0) dX10_text_305 rfl rfl (q := 306) rfl ?_
              refine J_getR dX10_text_306 lRX10_37 ha0 rfl (by decide) er27 (q := 309) rfl (fun _ => ?_)
              refine J_iconst (x := 1) dX10_text_309 (by decide) (q := 310) rfl ?_
              obtain ⟨g29, h⟩ := iteS h
              refine J_iald dX10_text_310 fr27 (ixB_ok g29) (q := 311) rfl ?_
              refine J_imul dX10_text_311  (q := 312) rfl ?_
              refine J_putI dX10_text_312 lRX10_297 (fun h => by cases h) ha0 rfl (q := 315) rfl ?_
              refine J_iconst (x := 0) dX10_text_315 (by decide) (q := 316) rfl ?_
              refine J_istore_n (lv' := [(3, .int 0), (0, .ref a0)]) dX10_text_316 rfl (by decide) rfl (q := 317) rfl ?_
              obtain ⟨o33, hlo33, h⟩ := bindS h
              refine J_pick [1, 0] rfl ?_
              refine tX10_text_w317 ha0 hlo33 ?_
              · intro so33 qo33
                rw [qo33] at h
                try dsimp only [Sum.elim_inl, Sum.elim_inr] at h
                refine J_iconst (x := 0) dX10_text_337 (by decide) (q := 338) rfl ?_
                refine J_istore_n (lv' := [(3, .int 0), (0, .ref a0)]) dX10_text_338 rfl (by decide) rfl (q := 339) rfl ?_
                obtain ⟨o41, hlo41, h⟩ := bindS h
                refine J_pick [1, 0] rfl ?_
                refine tX10_text_w339 ha0 hlo41 ?_
                · intro so41 qo41
                  rw [qo41] at h
                  try dsimp only [Sum.elim_inl, Sum.elim_inr] at h
                  refine J_iconst (x := 0) dX10_text_391 (by decide) (q := 392) rfl ?_
                  refine J_istore_n (lv' := [(3, .int 0), (0, .ref a0)]) dX10_text_392 rfl (by decide) rfl (q := 393) rfl ?_
                  obtain ⟨o47, hlo47, h⟩ := bindS h
                  refine J_pick [1, 0] rfl ?_
                  refine tX10_text_w393 ha0 hlo47 ?_
                  · intro so47 qo47
                    rw [qo47] at h
                    try dsimp only [Sum.elim_inl, Sum.elim_inr] at h
                    refine J_aload_n (z := 0) dX10_text_427 rfl rfl (q := 428) rfl ?_
                    obtain ⟨r48, er48, h⟩ := bindS h
                    refine J_getR dX10_text_428 lRX10_61 ha0 rfl (by decide) er48 (q := 431) rfl (fun fr48 => ?_)
                    refine J_bipush (x := 108) dX10_text_431 (by decide) (q := 433) rfl ?_
                    refine J_aload_n (z := 0) dX10_text_433 rfl rfl (q := 434) rfl ?_
                    obtain ⟨r49, er49, h⟩ := bindS h
                    refine J_getR dX10_text_434 lRX10_37 ha0 rfl (by decide) er49 (q := 437) rfl (fun fr49 => ?_)
                    refine J_iconst (x := 2) dX10_text_437 (by decide) (q := 438) rfl ?_
                    obtain ⟨g50, h⟩ := iteS h
                    refine J_iald dX10_text_438 fr49 (ixB_ok g50) (q := 439) rfl ?_
                    obtain ⟨g51, h⟩ := iteS h
                    refine J_iast dX10_text_439 fr48 (ixB_ok g51) (q := 440) rfl ?_
                    refine J_aload_n (z := 0) dX10_text_440 rfl rfl (q := 441) rfl ?_
                    refine J_iconst (x := 0) dX10_text_441 (by decide) (q := 442) rfl ?_
                    refine J_putI dX10_text_442 lRX10_300 (fun h => by cases h) ha0 rfl (q := 445) rfl ?_
                    refine J_aload_n (z := 0) dX10_text_445 rfl rfl (q := 446) rfl ?_
                    refine J_iconst (x := 0) dX10_text_446 (by decide) (q := 447) rfl ?_
                    refine J_putZ dX10_text_447 lRX10_303 (fun h => by cases h) ha0 rfl (by decide) (by decide) (q := 450) rfl ?_
                    refine J_aload_n (z := 0) dX10_text_450 rfl rfl (q := 451) rfl ?_
                    refine J_getI dX10_text_451 lRX10_291 ha0 rfl (q := 454) rfl ?_
                    have h := Option.some.inj h
                    subst h
                    exact J_ireturn dX10_text_454 rfl rfl rfl
      · rw [if_pos c7] at h
        refine J_iconst (x := 0) dX10_text_135 (by decide) (q := 136) rfl ?_
        refine J_istore_n (lv' := [(3, .int 0), (2, .int (gI sk5 a0 6)), (0, .ref a0), (1, .int a1)]) dX10_text_136 rfl (by decide) rfl (q := 137) rfl ?_
        obtain ⟨o56, hlo56, h⟩ := bindS h
        refine J_pick [2, 0] rfl ?_
        refine tX10_text_w137 ha0 hlo56 ?_
        · intro so56 qo56
          rw [qo56] at h
          try dsimp only [Sum.elim_inl, Sum.elim_inr] at h
          refine J_aload_n (z := 0) dX10_text_173 rfl rfl (q := 174) rfl ?_
          obtain ⟨r57, er57, h⟩ := bindS h
          refine J_getR dX10_text_174 lRX10_58 ha0 rfl (by decide) er57 (q := 177) rfl (fun fr57 => ?_)
          refine J_aload_n (z := 0) dX10_text_177 rfl rfl (q := 178) rfl ?_
          refine J_getI dX10_text_178 lRX10_286 ha0 rfl (q := 181) rfl ?_
          refine J_aload_n (z := 0) dX10_text_181 rfl rfl (q := 182) rfl ?_
          refine J_getR dX10_text_182 lRX10_58 ha0 rfl (by decide) er57 (q := 185) rfl (fun _ => ?_)
          refine J_iconst (x := 4) dX10_text_185 (by decide) (q := 186) rfl ?_
          obtain ⟨g58, h⟩ := iteS h
          refine J_iald dX10_text_186 fr57 (ixB_ok g58) (q := 187) rfl ?_
          obtain ⟨g59, h⟩ := iteS h
          refine J_iast dX10_text_187 fr57 (ixB_ok g59) (q := 188) rfl ?_
          refine J_aload_n (z := 0) dX10_text_188 rfl rfl (q := 189) rfl ?_
          refine J_dup dX10_text_189 rfl (q := 190) rfl ?_
          refine J_getI dX10_text_190 lRX10_286 ha0 rfl (q := 193) rfl ?_
          refine J_iconst (x := 1) dX10_text_193 (by decide) (q := 194) rfl ?_
          refine J_iadd dX10_text_194  (q := 195) rfl ?_
          refine J_putI dX10_text_195 lRX10_286 (fun h => by cases h) ha0 rfl (q := 198) rfl ?_
          refine J_aload_n (z := 0) dX10_text_198 rfl rfl (q := 199) rfl ?_
          refine J_getI dX10_text_199 lRX10_286 ha0 rfl (q := 202) rfl ?_
          refine J_iconst (x := 1) dX10_text_202 (by decide) (q := 203) rfl ?_
          refine J_isub dX10_text_203  (q := 204) rfl ?_
          have h := Option.some.inj h
          subst h
          exact J_ireturn dX10_text_204 rfl rfl rfl
    · rw [if_pos c6] at h
      refine J_iconst (x := 0) dX10_text_69 (by decide) (q := 70) rfl ?_
      refine J_istore_n (lv' := [(3, .int 0), (2, .int (gI sk5 a0 6)), (0, .ref a0), (1, .int a1)]) dX10_text_70 rfl (by decide) rfl (q := 71) rfl ?_
      obtain ⟨o65, hlo65, h⟩ := bindS h
      refine J_pick [2, 1, 0] rfl ?_
      refine tX10_text_w71 ha0 hlo65 ?_
      · intro so65 qo65
        rw [qo65] at h
        try dsimp only [Sum.elim_inl, Sum.elim_inr] at h
        refine J_aload_n (z := 0) dX10_text_103 rfl rfl (q := 104) rfl ?_
        obtain ⟨r66, er66, h⟩ := bindS h
        refine J_getR dX10_text_104 lRX10_16 ha0 rfl (by decide) er66 (q := 107) rfl (fun fr66 => ?_)
        refine J_aload_n (z := 0) dX10_text_107 rfl rfl (q := 108) rfl ?_
        refine J_getI dX10_text_108 lRX10_283 ha0 rfl (q := 111) rfl ?_
        refine J_iload_n (z := 1) dX10_text_111 rfl rfl (q := 112) rfl ?_
        obtain ⟨g67, h⟩ := iteS h
        refine J_iast dX10_text_112 fr66 (ixB_ok g67) (q := 113) rfl ?_
        refine J_aload_n (z := 0) dX10_text_113 rfl rfl (q := 114) rfl ?_
        refine J_dup dX10_text_114 rfl (q := 115) rfl ?_
        refine J_getI dX10_text_115 lRX10_283 ha0 rfl (q := 118) rfl ?_
        refine J_iconst (x := 1) dX10_text_118 (by decide) (q := 119) rfl ?_
        refine J_iadd dX10_text_119  (q := 120) rfl ?_
        refine J_putI dX10_text_120 lRX10_283 (fun h => by cases h) ha0 rfl (q := 123) rfl ?_
        refine J_aload_n (z := 0) dX10_text_123 rfl rfl (q := 124) rfl ?_
        refine J_getI dX10_text_124 lRX10_283 ha0 rfl (q := 127) rfl ?_
        refine J_iconst (x := 1) dX10_text_127 (by decide) (q := 128) rfl ?_
        refine J_isub dX10_text_128  (q := 129) rfl ?_
        have h := Option.some.inj h
        subst h
        exact J_ireturn dX10_text_129 rfl rfl rfl
  · rw [if_neg c5] at h
    refine J_iconst (x := (-1)) dX10_text_52 (by decide) (q := 53) rfl ?_
    have h := Option.some.inj h
    subst h
    exact J_ireturn dX10_text_53 rfl rfl rfl

def fX10_text_b30 (a0 : Nat) (a1 : Int32) (σ : Mm) : Option (Int32 × Mm) :=
  if a1 = 2 then if (gI σ a0 31) = 4 then some ((-1), σ) else fX10_text_b43 a0 a1 σ else fX10_text_b43 a0 a1 σ
set_option maxRecDepth 20000 in
set_option maxHeartbeats 2000000 in
theorem tX10_text_b30 {X : XS} {n : Nat} {σ : Mm} {a0 : Nat} {a1 : Int32} (ha0 : RT n a0 110) {res : Int32 × Mm} (h : fX10_text_b30 a0 a1 σ = some res) : J X mX10_text 112 0 0 (n, some (.int res.1), res.2) 30 [(0, .ref a0), (1, .int a1)] [] n σ := by
  unfold fX10_text_b30 at h
  refine J_iload_n (z := 1) dX10_text_30 rfl rfl (q := 31) rfl ?_
  refine J_iconst (x := 2) dX10_text_31 (by decide) (q := 32) rfl ?_
  refine J_icmp_ne (tgt := 43) dX10_text_32 (by decide) (q := 35) rfl (fun c3 => ?_) (fun c3 => ?_)
  · rw [if_neg c3] at h
    refine J_pick [0, 1] rfl ?_
    exact tX10_text_b43 ha0 h
  · rw [if_pos c3] at h
    refine J_aload_n (z := 0) dX10_text_35 rfl rfl (q := 36) rfl ?_
    refine J_getI dX10_text_36 lRX10_286 ha0 rfl (q := 39) rfl ?_
    refine J_iconst (x := 4) dX10_text_39 (by decide) (q := 40) rfl ?_
    refine J_icmp_eq (tgt := 52) dX10_text_40 (by decide) (q := 43) rfl (fun c67 => ?_) (fun c67 => ?_)
    · rw [if_pos c67] at h
      refine J_iconst (x := (-1)) dX10_text_52 (by decide) (q := 53) rfl ?_
      have h := Option.some.inj h
      subst h
      exact J_ireturn dX10_text_53 rfl rfl rfl
    · rw [if_neg c67] at h
      refine J_pick [0, 1] rfl ?_
      exact tX10_text_b43 ha0 h

def fX10_text (a0 : Nat) (a1 : Int32) (σ : Mm) : Option (Int32 × Mm) :=
  (fX10_isIn (Int32.toInt64 a1) 0 2 (sI σ a0 0 0)).bind fun vk1 => if vk1 = 0 then some ((-1), (sI σ a0 0 0)) else if a1 = 1 then if (gI (sI σ a0 0 0) a0 7) = 4 then some ((-1), (sI σ a0 0 0)) else fX10_text_b30 a0 a1 (sI σ a0 0 0) else fX10_text_b30 a0 a1 (sI σ a0 0 0)
set_option maxRecDepth 20000 in
set_option maxHeartbeats 2000000 in
theorem tX10_text {X : XS} {n : Nat} {σ : Mm} {a0 : Nat} {a1 : Int32} (ha0 : RT n a0 110) {res : Int32 × Mm} (h : fX10_text a0 a1 σ = some res) : MT X yX10_text mX10_text 112 0 0 [.ref a0, .int a1] n σ (n, some (.int res.1), res.2) := by
  unfold fX10_text at h
  refine MT_of (by decide +kernel) rfl (fun h => by cases h) (Nat.le_of_ble_eq_true rfl) ?_
  show J X mX10_text 112 0 0 (n, some (.int res.1), res.2) 0 [(0, .ref a0), (1, .int a1)] [] n σ
  refine J_aload_n (z := 0) dX10_text_0 rfl rfl (q := 1) rfl ?_
  refine J_iconst (x := 0) dX10_text_1 (by decide) (q := 2) rfl ?_
  refine J_putI dX10_text_2 lRX10_96 (fun h => by cases h) ha0 rfl (q := 5) rfl ?_
  refine J_iload_n (z := 1) dX10_text_5 rfl rfl (q := 6) rfl ?_
  refine J_i2l dX10_text_6  (q := 7) rfl ?_
  refine J_lconst (x := 0) dX10_text_7 (by decide) (q := 8) rfl ?_
  refine J_ldc2 (x := 2) dX10_text_8 kRX10_272 (q := 11) rfl ?_
  obtain ⟨vk1, hk1, h⟩ := bindS h
  refine J_cSi (as := [.long (Int32.toInt64 a1), .long 0, .long 2]) dX10_text_11 mRX10_217 (tX10_isIn  hk1) rfl (Nat.le_of_ble_eq_true rfl) (Nat.le_of_ble_eq_true rfl) (Nat.le_of_ble_eq_true rfl) (q := 14) rfl ?_
  intro bk1
  refine J_if_eq (tgt := 52) dX10_text_14 (by decide) (q := 17) rfl (fun c1 => ?_) (fun c1 => ?_)
  · rw [if_pos c1] at h
    refine J_iconst (x := (-1)) dX10_text_52 (by decide) (q := 53) rfl ?_
    have h := Option.some.inj h
    subst h
    exact J_ireturn dX10_text_53 rfl rfl rfl
  · rw [if_neg c1] at h
    refine J_iload_n (z := 1) dX10_text_17 rfl rfl (q := 18) rfl ?_
    refine J_iconst (x := 1) dX10_text_18 (by decide) (q := 19) rfl ?_
    refine J_icmp_ne (tgt := 30) dX10_text_19 (by decide) (q := 22) rfl (fun c2 => ?_) (fun c2 => ?_)
    · rw [if_neg c2] at h
      refine J_pick [0, 1] rfl ?_
      exact tX10_text_b30 ha0 h
    · rw [if_pos c2] at h
      refine J_aload_n (z := 0) dX10_text_22 rfl rfl (q := 23) rfl ?_
      refine J_getI dX10_text_23 lRX10_283 ha0 rfl (q := 26) rfl ?_
      refine J_iconst (x := 4) dX10_text_26 (by decide) (q := 27) rfl ?_
      refine J_icmp_eq (tgt := 52) dX10_text_27 (by decide) (q := 30) rfl (fun c68 => ?_) (fun c68 => ?_)
      · rw [if_pos c68] at h
        refine J_iconst (x := (-1)) dX10_text_52 (by decide) (q := 53) rfl ?_
        have h := Option.some.inj h
        subst h
        exact J_ireturn dX10_text_53 rfl rfl rfl
      · rw [if_neg c68] at h
        refine J_pick [0, 1] rfl ?_
        exact tX10_text_b30 ha0 h

def fX10_copy_l2 (a0 : Nat) (a1 : Nat) (a2 : Int32) (σ : Mm) : Option ((Int32 × Mm) ⊕ (Mm)) :=
  if 351 ≤ a2 then some (Sum.inr σ) else if ixB a2 (ln a0) = true then if ixB a2 (ln a1) = true then some (Sum.inl ((a2 + 1), (sI σ a1 (Int32.toNatClampNeg a2) (gI σ a0 (Int32.toNatClampNeg a2))))) else none else none
set_option maxRecDepth 20000 in
set_option maxHeartbeats 2000000 in
theorem tX10_copy_l2 {X : XS} {n : Nat} {σ : Mm} {F : Nat × Option Value × Mm} {a0 : Nat} {a1 : Nat} {a2 : Int32} (ha0 : RT n a0 200) (ha1 : RT n a1 200) {res : (Int32 × Mm) ⊕ (Mm)} (h : fX10_copy_l2 a0 a1 a2 σ = some res) (hc : ∀ (b2 : Int32) (s : Mm), res = .inl (b2, s) → J X mX10_copy 1 0 0 F 2 [(0, .ref a0), (1, .ref a1), (2, .int b2)] [] n s) (hr : ∀ (s : Mm), res = .inr s → F = (n, none, s)) : J X mX10_copy 1 0 0 F 2 [(0, .ref a0), (1, .ref a1), (2, .int a2)] [] n σ := by
  unfold fX10_copy_l2 at h
  refine J_iload_n (z := 2) dX10_copy_2 rfl rfl (q := 3) rfl ?_
  refine J_sipush (x := 351) dX10_copy_3 (by decide) (q := 6) rfl ?_
  refine J_icmp_ge (tgt := 21) dX10_copy_6 (by decide) (q := 9) rfl (fun c0 => ?_) (fun c0 => ?_)
  · rw [if_pos c0] at h
    have h := Option.some.inj h
    exact J_return dX10_copy_21 rfl (hr _ h.symm)
  · rw [if_neg c0] at h
    refine J_aload_n (z := 1) dX10_copy_9 rfl rfl (q := 10) rfl ?_
    refine J_iload_n (z := 2) dX10_copy_10 rfl rfl (q := 11) rfl ?_
    refine J_aload_n (z := 0) dX10_copy_11 rfl rfl (q := 12) rfl ?_
    refine J_iload_n (z := 2) dX10_copy_12 rfl rfl (q := 13) rfl ?_
    obtain ⟨g2, h⟩ := iteS h
    refine J_iald dX10_copy_13 ha0 (ixB_ok g2) (q := 14) rfl ?_
    obtain ⟨g3, h⟩ := iteS h
    refine J_iast dX10_copy_14 ha1 (ixB_ok g3) (q := 15) rfl ?_
    refine J_iinc (z := 2) (y := (a2 + 1)) (lv' := [(2, .int (a2 + 1)), (0, .ref a0), (1, .ref a1)]) dX10_copy_15 rfl rfl (by decide) rfl (q := 18) rfl ?_
    refine J_goto (tgt := 2) dX10_copy_18 (by decide) ?_
    have h := Option.some.inj h
    refine J_pick [1, 2, 0] rfl ?_
    exact hc _ _ h.symm

def fX10_copy_w2 (a0 : Nat) (a1 : Nat) (a2 : Int32) (σ : Mm) : Option (Mm) :=
  wh (fun a : Int32 × Mm => fX10_copy_l2 a0 a1 a.1 a.2) BIG (a2, σ)
set_option maxRecDepth 20000 in
set_option maxHeartbeats 2000000 in
theorem tX10_copy_w2 {X : XS} {n : Nat} {σ : Mm} {F : Nat × Option Value × Mm} {a0 : Nat} {a1 : Nat} {a2 : Int32} (ha0 : RT n a0 200) (ha1 : RT n a1 200) {res : Mm} (h : fX10_copy_w2 a0 a1 a2 σ = some res) (hr : ∀ (s : Mm), res = s → F = (n, none, s)) : J X mX10_copy 1 0 0 F 2 [(0, .ref a0), (1, .ref a1), (2, .int a2)] [] n σ := by
  unfold fX10_copy_w2 at h
  refine wh_rule (P := fun a : Int32 × Mm => J X mX10_copy 1 0 0 F 2 [(0, .ref a0), (1, .ref a1), (2, .int a.1)] [] n a.2) (K := fun b => b = res) ?_ _ _ _ h rfl
  intro a
  refine ⟨fun a2 hb hP => ?_, fun b hb hK => ?_⟩
  · exact tX10_copy_l2 ha0 ha1 hb (fun _ _ e => by cases e; exact hP) (fun _ e => by cases e)
  · subst hK
    exact tX10_copy_l2 ha0 ha1 hb (fun _ _ e => by cases e) (fun v0 e => hr v0 (Sum.inr.inj e))

def fX10_copy (a0 : Nat) (a1 : Nat) (σ : Mm) : Option (Mm) :=
  (fX10_copy_w2 a0 a1 0 σ).bind (fun o4 => some o4)
set_option maxRecDepth 20000 in
set_option maxHeartbeats 2000000 in
theorem tX10_copy {X : XS} {n : Nat} {σ : Mm} {a0 : Nat} {a1 : Nat} (ha0 : RT n a0 200) (ha1 : RT n a1 200) {res : Mm} (h : fX10_copy a0 a1 σ = some res) : MT X yX10_copy mX10_copy 1 0 0 [.ref a0, .ref a1] n σ (n, none, res) := by
  unfold fX10_copy at h
  refine MT_of (by decide +kernel) rfl (fun h => by cases h) (Nat.le_of_ble_eq_true rfl) ?_
  show J X mX10_copy 1 0 0 (n, none, res) 0 [(0, .ref a0), (1, .ref a1)] [] n σ
  refine J_iconst (x := 0) dX10_copy_0 (by decide) (q := 1) rfl ?_
  refine J_istore_n (lv' := [(2, .int 0), (0, .ref a0), (1, .ref a1)]) dX10_copy_1 rfl (by decide) rfl (q := 2) rfl ?_
  obtain ⟨o4, hlo4, h⟩ := bindS h
  refine J_pick [1, 2, 0] rfl ?_
  refine tX10_copy_w2 ha0 ha1 hlo4 ?_
  · intro so4 qo4
    rw [qo4] at h
    try dsimp only [Sum.elim_inl, Sum.elim_inr] at h
    have h := Option.some.inj h
    subst h
    rfl

def fX10_isCell (a0 : Nat) (a1 : Int32) (σ : Mm) : Option (Int32) :=
  if a1 < 0 then some 0 else if (gI σ a0 26) ≤ a1 then some 0 else some 1
set_option maxRecDepth 20000 in
set_option maxHeartbeats 2000000 in
theorem tX10_isCell {X : XS} {n : Nat} {σ : Mm} {a0 : Nat} {a1 : Int32} (ha0 : RT n a0 110) {res : Int32} (h : fX10_isCell a0 a1 σ = some res) : MT X yX10_isCell mX10_isCell 1 0 0 [.ref a0, .int a1] n σ (n, some (.int res), σ) := by
  unfold fX10_isCell at h
  refine MT_of (by decide +kernel) rfl (fun h => by cases h) (Nat.le_of_ble_eq_true rfl) ?_
  show J X mX10_isCell 1 0 0 (n, some (.int res), σ) 0 [(0, .ref a0), (1, .int a1)] [] n σ
  refine J_iload_n (z := 1) dX10_isCell_0 rfl rfl (q := 1) rfl ?_
  refine J_if_lt (tgt := 16) dX10_isCell_1 (by decide) (q := 4) rfl (fun c0 => ?_) (fun c0 => ?_)
  · rw [if_pos c0] at h
    refine J_iconst (x := 0) dX10_isCell_16 (by decide) (q := 17) rfl ?_
    have h := Option.some.inj h
    subst h
    exact J_ireturn dX10_isCell_17 rfl rfl rfl
  · rw [if_neg c0] at h
    refine J_iload_n (z := 1) dX10_isCell_4 rfl rfl (q := 5) rfl ?_
    refine J_aload_n (z := 0) dX10_isCell_5 rfl rfl (q := 6) rfl ?_
    refine J_getI dX10_isCell_6 lRX10_297 ha0 rfl (q := 9) rfl ?_
    refine J_icmp_ge (tgt := 16) dX10_isCell_9 (by decide) (q := 12) rfl (fun c1 => ?_) (fun c1 => ?_)
    · rw [if_pos c1] at h
      refine J_iconst (x := 0) dX10_isCell_16 (by decide) (q := 17) rfl ?_
      have h := Option.some.inj h
      subst h
      exact J_ireturn dX10_isCell_17 rfl rfl rfl
    · rw [if_neg c1] at h
      refine J_iconst (x := 1) dX10_isCell_12 (by decide) (q := 13) rfl ?_
      refine J_goto (tgt := 17) dX10_isCell_13 (by decide) ?_
      have h := Option.some.inj h
      subst h
      exact J_ireturn dX10_isCell_17 rfl rfl rfl

def fX10_isPage (a0 : Nat) (a1 : Int32) (σ : Mm) : Option (Int32) :=
  if a1 < 0 then some 0 else if (gI σ a0 27) ≤ a1 then some 0 else some 1
set_option maxRecDepth 20000 in
set_option maxHeartbeats 2000000 in
theorem tX10_isPage {X : XS} {n : Nat} {σ : Mm} {a0 : Nat} {a1 : Int32} (ha0 : RT n a0 110) {res : Int32} (h : fX10_isPage a0 a1 σ = some res) : MT X yX10_isPage mX10_isPage 1 0 0 [.ref a0, .int a1] n σ (n, some (.int res), σ) := by
  unfold fX10_isPage at h
  refine MT_of (by decide +kernel) rfl (fun h => by cases h) (Nat.le_of_ble_eq_true rfl) ?_
  show J X mX10_isPage 1 0 0 (n, some (.int res), σ) 0 [(0, .ref a0), (1, .int a1)] [] n σ
  refine J_iload_n (z := 1) dX10_isPage_0 rfl rfl (q := 1) rfl ?_
  refine J_if_lt (tgt := 16) dX10_isPage_1 (by decide) (q := 4) rfl (fun c0 => ?_) (fun c0 => ?_)
  · rw [if_pos c0] at h
    refine J_iconst (x := 0) dX10_isPage_16 (by decide) (q := 17) rfl ?_
    have h := Option.some.inj h
    subst h
    exact J_ireturn dX10_isPage_17 rfl rfl rfl
  · rw [if_neg c0] at h
    refine J_iload_n (z := 1) dX10_isPage_4 rfl rfl (q := 5) rfl ?_
    refine J_aload_n (z := 0) dX10_isPage_5 rfl rfl (q := 6) rfl ?_
    refine J_getI dX10_isPage_6 lRX10_291 ha0 rfl (q := 9) rfl ?_
    refine J_icmp_ge (tgt := 16) dX10_isPage_9 (by decide) (q := 12) rfl (fun c1 => ?_) (fun c1 => ?_)
    · rw [if_pos c1] at h
      refine J_iconst (x := 0) dX10_isPage_16 (by decide) (q := 17) rfl ?_
      have h := Option.some.inj h
      subst h
      exact J_ireturn dX10_isPage_17 rfl rfl rfl
    · rw [if_neg c1] at h
      refine J_iconst (x := 1) dX10_isPage_12 (by decide) (q := 13) rfl ?_
      refine J_goto (tgt := 17) dX10_isPage_13 (by decide) ?_
      have h := Option.some.inj h
      subst h
      exact J_ireturn dX10_isPage_17 rfl rfl rfl

def fX10_isReader (a0 : Nat) (a1 : Int32) (σ : Mm) : Option (Int32) :=
  if a1 < 0 then some 0 else if (gI σ a0 28) ≤ a1 then some 0 else some 1
set_option maxRecDepth 20000 in
set_option maxHeartbeats 2000000 in
theorem tX10_isReader {X : XS} {n : Nat} {σ : Mm} {a0 : Nat} {a1 : Int32} (ha0 : RT n a0 110) {res : Int32} (h : fX10_isReader a0 a1 σ = some res) : MT X yX10_isReader mX10_isReader 1 0 0 [.ref a0, .int a1] n σ (n, some (.int res), σ) := by
  unfold fX10_isReader at h
  refine MT_of (by decide +kernel) rfl (fun h => by cases h) (Nat.le_of_ble_eq_true rfl) ?_
  show J X mX10_isReader 1 0 0 (n, some (.int res), σ) 0 [(0, .ref a0), (1, .int a1)] [] n σ
  refine J_iload_n (z := 1) dX10_isReader_0 rfl rfl (q := 1) rfl ?_
  refine J_if_lt (tgt := 16) dX10_isReader_1 (by decide) (q := 4) rfl (fun c0 => ?_) (fun c0 => ?_)
  · rw [if_pos c0] at h
    refine J_iconst (x := 0) dX10_isReader_16 (by decide) (q := 17) rfl ?_
    have h := Option.some.inj h
    subst h
    exact J_ireturn dX10_isReader_17 rfl rfl rfl
  · rw [if_neg c0] at h
    refine J_iload_n (z := 1) dX10_isReader_4 rfl rfl (q := 5) rfl ?_
    refine J_aload_n (z := 0) dX10_isReader_5 rfl rfl (q := 6) rfl ?_
    refine J_getI dX10_isReader_6 lRX10_294 ha0 rfl (q := 9) rfl ?_
    refine J_icmp_ge (tgt := 16) dX10_isReader_9 (by decide) (q := 12) rfl (fun c1 => ?_) (fun c1 => ?_)
    · rw [if_pos c1] at h
      refine J_iconst (x := 0) dX10_isReader_16 (by decide) (q := 17) rfl ?_
      have h := Option.some.inj h
      subst h
      exact J_ireturn dX10_isReader_17 rfl rfl rfl
    · rw [if_neg c1] at h
      refine J_iconst (x := 1) dX10_isReader_12 (by decide) (q := 13) rfl ?_
      refine J_goto (tgt := 17) dX10_isReader_13 (by decide) ?_
      have h := Option.some.inj h
      subst h
      exact J_ireturn dX10_isReader_17 rfl rfl rfl

def fX10_apart (a0 : Nat) (a1 : Int32) (a2 : Int32) (σ : Mm) : Option (Int32) :=
  (gR σ a0 18).bind fun r1 => if ixB 0 (ln r1) = true then if (gI σ r1 (Int32.toNatClampNeg 0)) = 0 then none else if ixB 0 (ln r1) = true then if (gI σ r1 (Int32.toNatClampNeg 0)) = 0 then none else if ixB 0 (ln r1) = true then if (gI σ r1 (Int32.toNatClampNeg 0)) = 0 then none else if ixB 0 (ln r1) = true then if (gI σ r1 (Int32.toNatClampNeg 0)) = 0 then none else some ((absI ((remI a1 (gI σ r1 (Int32.toNatClampNeg 0))) - (remI a2 (gI σ r1 (Int32.toNatClampNeg 0))))) + (absI ((a1 / (gI σ r1 (Int32.toNatClampNeg 0))) - (a2 / (gI σ r1 (Int32.toNatClampNeg 0)))))) else none else none else none else none
set_option maxRecDepth 20000 in
set_option maxHeartbeats 2000000 in
theorem tX10_apart {X : XS} {n : Nat} {σ : Mm} {a0 : Nat} {a1 : Int32} {a2 : Int32} (ha0 : RT n a0 110) {res : Int32} (h : fX10_apart a0 a1 a2 σ = some res) : MT X yX10_apart mX10_apart 1 0 0 [.ref a0, .int a1, .int a2] n σ (n, some (.int res), σ) := by
  unfold fX10_apart at h
  refine MT_of (by decide +kernel) rfl (fun h => by cases h) (Nat.le_of_ble_eq_true rfl) ?_
  show J X mX10_apart 1 0 0 (n, some (.int res), σ) 0 [(0, .ref a0), (1, .int a1), (2, .int a2)] [] n σ
  refine J_iload_n (z := 1) dX10_apart_0 rfl rfl (q := 1) rfl ?_
  refine J_aload_n (z := 0) dX10_apart_1 rfl rfl (q := 2) rfl ?_
  obtain ⟨r1, er1, h⟩ := bindS h
  refine J_getR dX10_apart_2 lRX10_37 ha0 rfl (by decide) er1 (q := 5) rfl (fun fr1 => ?_)
  refine J_iconst (x := 0) dX10_apart_5 (by decide) (q := 6) rfl ?_
  obtain ⟨g2, h⟩ := iteS h
  refine J_iald dX10_apart_6 fr1 (ixB_ok g2) (q := 7) rfl ?_
  obtain ⟨g3, h⟩ := iteN h
  refine J_irem dX10_apart_7 g3 (q := 8) rfl ?_
  refine J_iload_n (z := 2) dX10_apart_8 rfl rfl (q := 9) rfl ?_
  refine J_aload_n (z := 0) dX10_apart_9 rfl rfl (q := 10) rfl ?_
  refine J_getR dX10_apart_10 lRX10_37 ha0 rfl (by decide) er1 (q := 13) rfl (fun _ => ?_)
  refine J_iconst (x := 0) dX10_apart_13 (by decide) (q := 14) rfl ?_
  obtain ⟨g4, h⟩ := iteS h
  refine J_iald dX10_apart_14 fr1 (ixB_ok g4) (q := 15) rfl ?_
  obtain ⟨g5, h⟩ := iteN h
  refine J_irem dX10_apart_15 g5 (q := 16) rfl ?_
  refine J_isub dX10_apart_16  (q := 17) rfl ?_
  refine J_mabs dX10_apart_17 pRX10_306 q_static_mabs q_init_math q_code_mabs (Nat.le_of_ble_eq_true rfl) (Nat.le_of_ble_eq_true rfl) (q := 20) rfl ?_
  refine J_iload_n (z := 1) dX10_apart_20 rfl rfl (q := 21) rfl ?_
  refine J_aload_n (z := 0) dX10_apart_21 rfl rfl (q := 22) rfl ?_
  refine J_getR dX10_apart_22 lRX10_37 ha0 rfl (by decide) er1 (q := 25) rfl (fun _ => ?_)
  refine J_iconst (x := 0) dX10_apart_25 (by decide) (q := 26) rfl ?_
  obtain ⟨g6, h⟩ := iteS h
  refine J_iald dX10_apart_26 fr1 (ixB_ok g6) (q := 27) rfl ?_
  obtain ⟨g7, h⟩ := iteN h
  refine J_idiv dX10_apart_27 g7 (q := 28) rfl ?_
  refine J_iload_n (z := 2) dX10_apart_28 rfl rfl (q := 29) rfl ?_
  refine J_aload_n (z := 0) dX10_apart_29 rfl rfl (q := 30) rfl ?_
  refine J_getR dX10_apart_30 lRX10_37 ha0 rfl (by decide) er1 (q := 33) rfl (fun _ => ?_)
  refine J_iconst (x := 0) dX10_apart_33 (by decide) (q := 34) rfl ?_
  obtain ⟨g8, h⟩ := iteS h
  refine J_iald dX10_apart_34 fr1 (ixB_ok g8) (q := 35) rfl ?_
  obtain ⟨g9, h⟩ := iteN h
  refine J_idiv dX10_apart_35 g9 (q := 36) rfl ?_
  refine J_isub dX10_apart_36  (q := 37) rfl ?_
  refine J_mabs dX10_apart_37 pRX10_306 q_static_mabs q_init_math q_code_mabs (Nat.le_of_ble_eq_true rfl) (Nat.le_of_ble_eq_true rfl) (q := 40) rfl ?_
  refine J_iadd dX10_apart_40  (q := 41) rfl ?_
  have h := Option.some.inj h
  subst h
  exact J_ireturn dX10_apart_41 rfl rfl rfl

def fX10_cellOf (a0 : Nat) (a1 : Int32) (σ : Mm) : Option (Int32) :=
  if ixB (24 + (14 * a1)) (ln a0) = true then some (gI σ a0 (Int32.toNatClampNeg (24 + (14 * a1)))) else none
set_option maxRecDepth 20000 in
set_option maxHeartbeats 2000000 in
theorem tX10_cellOf {X : XS} {n : Nat} {σ : Mm} {a0 : Nat} {a1 : Int32} (ha0 : RT n a0 200) {res : Int32} (h : fX10_cellOf a0 a1 σ = some res) : MT X yX10_cellOf mX10_cellOf 1 0 0 [.ref a0, .int a1] n σ (n, some (.int res), σ) := by
  unfold fX10_cellOf at h
  refine MT_of (by decide +kernel) rfl (fun h => by cases h) (Nat.le_of_ble_eq_true rfl) ?_
  show J X mX10_cellOf 1 0 0 (n, some (.int res), σ) 0 [(0, .ref a0), (1, .int a1)] [] n σ
  refine J_aload_n (z := 0) dX10_cellOf_0 rfl rfl (q := 1) rfl ?_
  refine J_bipush (x := 24) dX10_cellOf_1 (by decide) (q := 3) rfl ?_
  refine J_bipush (x := 14) dX10_cellOf_3 (by decide) (q := 5) rfl ?_
  refine J_iload_n (z := 1) dX10_cellOf_5 rfl rfl (q := 6) rfl ?_
  refine J_imul dX10_cellOf_6  (q := 7) rfl ?_
  refine J_iadd dX10_cellOf_7  (q := 8) rfl ?_
  obtain ⟨g1, h⟩ := iteS h
  refine J_iald dX10_cellOf_8 ha0 (ixB_ok g1) (q := 9) rfl ?_
  have h := Option.some.inj h
  subst h
  exact J_ireturn dX10_cellOf_9 rfl rfl rfl

def fX10_knows (a0 : Nat) (a1 : Int32) (a2 : Int32) (σ : Mm) : Option (Int32) :=
  if ixB (((24 + (14 * a1)) + 2) + a2) (ln a0) = true then if (gI σ a0 (Int32.toNatClampNeg (((24 + (14 * a1)) + 2) + a2))) ≤ 0 then some 0 else some 1 else none
set_option maxRecDepth 20000 in
set_option maxHeartbeats 2000000 in
theorem tX10_knows {X : XS} {n : Nat} {σ : Mm} {a0 : Nat} {a1 : Int32} {a2 : Int32} (ha0 : RT n a0 200) {res : Int32} (h : fX10_knows a0 a1 a2 σ = some res) : MT X yX10_knows mX10_knows 1 0 0 [.ref a0, .int a1, .int a2] n σ (n, some (.int res), σ) := by
  unfold fX10_knows at h
  refine MT_of (by decide +kernel) rfl (fun h => by cases h) (Nat.le_of_ble_eq_true rfl) ?_
  show J X mX10_knows 1 0 0 (n, some (.int res), σ) 0 [(0, .ref a0), (1, .int a1), (2, .int a2)] [] n σ
  refine J_aload_n (z := 0) dX10_knows_0 rfl rfl (q := 1) rfl ?_
  refine J_bipush (x := 24) dX10_knows_1 (by decide) (q := 3) rfl ?_
  refine J_bipush (x := 14) dX10_knows_3 (by decide) (q := 5) rfl ?_
  refine J_iload_n (z := 1) dX10_knows_5 rfl rfl (q := 6) rfl ?_
  refine J_imul dX10_knows_6  (q := 7) rfl ?_
  refine J_iadd dX10_knows_7  (q := 8) rfl ?_
  refine J_iconst (x := 2) dX10_knows_8 (by decide) (q := 9) rfl ?_
  refine J_iadd dX10_knows_9  (q := 10) rfl ?_
  refine J_iload_n (z := 2) dX10_knows_10 rfl rfl (q := 11) rfl ?_
  refine J_iadd dX10_knows_11  (q := 12) rfl ?_
  obtain ⟨g1, h⟩ := iteS h
  refine J_iald dX10_knows_12 ha0 (ixB_ok g1) (q := 13) rfl ?_
  refine J_if_le (tgt := 20) dX10_knows_13 (by decide) (q := 16) rfl (fun c1 => ?_) (fun c1 => ?_)
  · rw [if_pos c1] at h
    refine J_iconst (x := 0) dX10_knows_20 (by decide) (q := 21) rfl ?_
    have h := Option.some.inj h
    subst h
    exact J_ireturn dX10_knows_21 rfl rfl rfl
  · rw [if_neg c1] at h
    refine J_iconst (x := 1) dX10_knows_16 (by decide) (q := 17) rfl ?_
    refine J_goto (tgt := 21) dX10_knows_17 (by decide) ?_
    have h := Option.some.inj h
    subst h
    exact J_ireturn dX10_knows_21 rfl rfl rfl

def fX10_recalls (a0 : Nat) (a1 : Int32) (a2 : Int32) (σ : Mm) : Option (Int32) :=
  if ixB (((24 + (14 * a1)) + 2) + a2) (ln a0) = true then some ((gI σ a0 (Int32.toNatClampNeg (((24 + (14 * a1)) + 2) + a2))) - 1) else none
set_option maxRecDepth 20000 in
set_option maxHeartbeats 2000000 in
theorem tX10_recalls {X : XS} {n : Nat} {σ : Mm} {a0 : Nat} {a1 : Int32} {a2 : Int32} (ha0 : RT n a0 200) {res : Int32} (h : fX10_recalls a0 a1 a2 σ = some res) : MT X yX10_recalls mX10_recalls 1 0 0 [.ref a0, .int a1, .int a2] n σ (n, some (.int res), σ) := by
  unfold fX10_recalls at h
  refine MT_of (by decide +kernel) rfl (fun h => by cases h) (Nat.le_of_ble_eq_true rfl) ?_
  show J X mX10_recalls 1 0 0 (n, some (.int res), σ) 0 [(0, .ref a0), (1, .int a1), (2, .int a2)] [] n σ
  refine J_aload_n (z := 0) dX10_recalls_0 rfl rfl (q := 1) rfl ?_
  refine J_bipush (x := 24) dX10_recalls_1 (by decide) (q := 3) rfl ?_
  refine J_bipush (x := 14) dX10_recalls_3 (by decide) (q := 5) rfl ?_
  refine J_iload_n (z := 1) dX10_recalls_5 rfl rfl (q := 6) rfl ?_
  refine J_imul dX10_recalls_6  (q := 7) rfl ?_
  refine J_iadd dX10_recalls_7  (q := 8) rfl ?_
  refine J_iconst (x := 2) dX10_recalls_8 (by decide) (q := 9) rfl ?_
  refine J_iadd dX10_recalls_9  (q := 10) rfl ?_
  refine J_iload_n (z := 2) dX10_recalls_10 rfl rfl (q := 11) rfl ?_
  refine J_iadd dX10_recalls_11  (q := 12) rfl ?_
  obtain ⟨g1, h⟩ := iteS h
  refine J_iald dX10_recalls_12 ha0 (ixB_ok g1) (q := 13) rfl ?_
  refine J_iconst (x := 1) dX10_recalls_13 (by decide) (q := 14) rfl ?_
  refine J_isub dX10_recalls_14  (q := 15) rfl ?_
  have h := Option.some.inj h
  subst h
  exact J_ireturn dX10_recalls_15 rfl rfl rfl

def fX10_learns (a0 : Nat) (a1 : Int32) (a2 : Int32) (a3 : Int32) (σ : Mm) : Option (Mm) :=
  if ixB (((24 + (14 * a1)) + 2) + a2) (ln a0) = true then some (sI σ a0 (Int32.toNatClampNeg (((24 + (14 * a1)) + 2) + a2)) (a3 + 1)) else none
set_option maxRecDepth 20000 in
set_option maxHeartbeats 2000000 in
theorem tX10_learns {X : XS} {n : Nat} {σ : Mm} {a0 : Nat} {a1 : Int32} {a2 : Int32} {a3 : Int32} (ha0 : RT n a0 200) {res : Mm} (h : fX10_learns a0 a1 a2 a3 σ = some res) : MT X yX10_learns mX10_learns 1 0 0 [.ref a0, .int a1, .int a2, .int a3] n σ (n, none, res) := by
  unfold fX10_learns at h
  refine MT_of (by decide +kernel) rfl (fun h => by cases h) (Nat.le_of_ble_eq_true rfl) ?_
  show J X mX10_learns 1 0 0 (n, none, res) 0 [(0, .ref a0), (1, .int a1), (2, .int a2), (3, .int a3)] [] n σ
  refine J_aload_n (z := 0) dX10_learns_0 rfl rfl (q := 1) rfl ?_
  refine J_bipush (x := 24) dX10_learns_1 (by decide) (q := 3) rfl ?_
  refine J_bipush (x := 14) dX10_learns_3 (by decide) (q := 5) rfl ?_
  refine J_iload_n (z := 1) dX10_learns_5 rfl rfl (q := 6) rfl ?_
  refine J_imul dX10_learns_6  (q := 7) rfl ?_
  refine J_iadd dX10_learns_7  (q := 8) rfl ?_
  refine J_iconst (x := 2) dX10_learns_8 (by decide) (q := 9) rfl ?_
  refine J_iadd dX10_learns_9  (q := 10) rfl ?_
  refine J_iload_n (z := 2) dX10_learns_10 rfl rfl (q := 11) rfl ?_
  refine J_iadd dX10_learns_11  (q := 12) rfl ?_
  refine J_iload_n (z := 3) dX10_learns_12 rfl rfl (q := 13) rfl ?_
  refine J_iconst (x := 1) dX10_learns_13 (by decide) (q := 14) rfl ?_
  refine J_iadd dX10_learns_14  (q := 15) rfl ?_
  obtain ⟨g1, h⟩ := iteS h
  refine J_iast dX10_learns_15 ha0 (ixB_ok g1) (q := 16) rfl ?_
  have h := Option.some.inj h
  subst h
  exact J_return dX10_learns_16 rfl rfl

def fX10_canDo (a0 : Nat) (a1 : Nat) (a2 : Int32) (σ : Mm) : Option (Int32) :=
  (fX10_isReader a0 a2 σ).bind fun vk1 => if vk1 = 0 then some 0 else if ixB ((24 + (14 * a2)) + 1) (ln a1) = true then if (gI σ a1 (Int32.toNatClampNeg ((24 + (14 * a2)) + 1))) = 0 then some 1 else some 0 else none
set_option maxRecDepth 20000 in
set_option maxHeartbeats 2000000 in
theorem tX10_canDo {X : XS} {n : Nat} {σ : Mm} {a0 : Nat} {a1 : Nat} {a2 : Int32} (ha0 : RT n a0 110) (ha1 : RT n a1 200) {res : Int32} (h : fX10_canDo a0 a1 a2 σ = some res) : MT X yX10_canDo mX10_canDo 2 0 0 [.ref a0, .ref a1, .int a2] n σ (n, some (.int res), σ) := by
  unfold fX10_canDo at h
  refine MT_of (by decide +kernel) rfl (fun h => by cases h) (Nat.le_of_ble_eq_true rfl) ?_
  show J X mX10_canDo 2 0 0 (n, some (.int res), σ) 0 [(0, .ref a0), (1, .ref a1), (2, .int a2)] [] n σ
  refine J_aload_n (z := 0) dX10_canDo_0 rfl rfl (q := 1) rfl ?_
  refine J_iload_n (z := 2) dX10_canDo_1 rfl rfl (q := 2) rfl ?_
  obtain ⟨vk1, hk1, h⟩ := bindS h
  refine J_cVi (as := [.int a2]) dX10_canDo_2 mRX10_309 ha0 (tX10_isReader ha0 hk1) rfl (Nat.le_of_ble_eq_true rfl) (Nat.le_of_ble_eq_true rfl) (Nat.le_of_ble_eq_true rfl) (q := 5) rfl ?_
  intro bk1
  refine J_if_eq (tgt := 26) dX10_canDo_5 (by decide) (q := 8) rfl (fun c1 => ?_) (fun c1 => ?_)
  · rw [if_pos c1] at h
    refine J_iconst (x := 0) dX10_canDo_26 (by decide) (q := 27) rfl ?_
    have h := Option.some.inj h
    subst h
    exact J_ireturn dX10_canDo_27 rfl rfl rfl
  · rw [if_neg c1] at h
    refine J_aload_n (z := 1) dX10_canDo_8 rfl rfl (q := 9) rfl ?_
    refine J_bipush (x := 24) dX10_canDo_9 (by decide) (q := 11) rfl ?_
    refine J_bipush (x := 14) dX10_canDo_11 (by decide) (q := 13) rfl ?_
    refine J_iload_n (z := 2) dX10_canDo_13 rfl rfl (q := 14) rfl ?_
    refine J_imul dX10_canDo_14  (q := 15) rfl ?_
    refine J_iadd dX10_canDo_15  (q := 16) rfl ?_
    refine J_iconst (x := 1) dX10_canDo_16 (by decide) (q := 17) rfl ?_
    refine J_iadd dX10_canDo_17  (q := 18) rfl ?_
    obtain ⟨g3, h⟩ := iteS h
    refine J_iald dX10_canDo_18 ha1 (ixB_ok g3) (q := 19) rfl ?_
    refine J_if_ne (tgt := 26) dX10_canDo_19 (by decide) (q := 22) rfl (fun c3 => ?_) (fun c3 => ?_)
    · rw [if_neg c3] at h
      refine J_iconst (x := 0) dX10_canDo_26 (by decide) (q := 27) rfl ?_
      have h := Option.some.inj h
      subst h
      exact J_ireturn dX10_canDo_27 rfl rfl rfl
    · rw [if_pos c3] at h
      refine J_iconst (x := 1) dX10_canDo_22 (by decide) (q := 23) rfl ?_
      refine J_goto (tgt := 27) dX10_canDo_23 (by decide) ?_
      have h := Option.some.inj h
      subst h
      exact J_ireturn dX10_canDo_27 rfl rfl rfl

