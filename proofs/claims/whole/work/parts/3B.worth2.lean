/-! laws: what a text is worth -/
section LawK
variable {cs vs ℓ : Nat → Int32} {N : Nat}
theorem ev_seg : ∀ (m i t : Nat) (S : Nat → Int32) (t' : Nat) (S' : Nat → Int32) (k : Nat), rnO cs vs ℓ m i (t, S) = some (t', S') → (∀ x, i ≤ x → x < i + m → ¬ cs x = 59 ∧ ¬ cs x = 63) → i + m ≤ N → evS cs vs ℓ N (k + m) t false i S = evS cs vs ℓ N k t' false (i + m) S' := by
  intro m
  induction m with
  | zero =>
    intro i t S t' S' k h _ _
    have : (t, S) = (t', S') := Option.some.inj h
    cases this
    rfl
  | succ m ih =>
    intro i t S t' S' k h hc hN
    obtain ⟨n59, n63⟩ := hc i (Nat.le_refl _) (by omega)
    rw [rnO_s] at h
    cases e : stO (cs i) (vs i) ℓ (t, S) with
    | none => rw [e] at h; cases h
    | some s1 =>
      rw [e, Option.bind_some] at h
      obtain ⟨t1, S1⟩ := s1
      have I := ih (i + 1) t1 S1 t' S' k h (fun x h1 h2 => hc x (by omega) (by omega)) (by omega)
      rw [show i + (m + 1) = i + 1 + m by omega, ← I, show k + (m + 1) = (k + m) + 1 by omega]
      have ff : ¬ false = true := by decide
      unfold stO at e
      dsimp only at e
      rw [evS, if_neg (show ¬ N ≤ i by omega), if_neg ff, if_neg n59, if_neg n63]
      by_cases q0 : 242 ≤ t
      · rw [if_pos q0] at e; cases e
      · rw [if_neg q0] at e ⊢
        by_cases q1 : cs i = 48
        · rw [if_pos q1] at e ⊢
          cases e; rfl
        · rw [if_neg q1] at e ⊢
          by_cases q2 : cs i = 97
          · rw [if_pos q2] at e ⊢
            cases e; rfl
          · rw [if_neg q2] at e ⊢
            by_cases q3 : cs i = 33
            · rw [if_pos q3] at e ⊢
              by_cases q4 : t = 0
              · rw [if_pos q4] at e; cases e
              · rw [if_neg q4] at e ⊢
                cases e; rfl
            · rw [if_neg q3] at e ⊢
              by_cases q5 : t ≤ 1
              · rw [if_pos q5] at e; cases e
              · rw [if_neg q5] at e ⊢
                cases e; rfl
theorem ev_skip : ∀ (m i t : Nat) (S : Nat → Int32) (k : Nat), (∀ x, i ≤ x → x < i + m → ¬ cs x = 59) → i + m ≤ N → evS cs vs ℓ N (k + m) t true i S = evS cs vs ℓ N k t true (i + m) S := by
  intro m
  induction m with
  | zero => intro i t S k _ _; rfl
  | succ m ih =>
    intro i t S k hc hN
    rw [show k + (m + 1) = (k + m) + 1 by omega, evS, if_neg (show ¬ N ≤ i by omega), if_pos rfl, if_neg (hc i (Nat.le_refl _) (by omega)), ih (i + 1) t S k (fun x h1 h2 => hc x (by omega) (by omega)) (by omega), show i + 1 + m = i + (m + 1) by omega]
theorem ev_Cl {n n' : Nat} {r : Option Int32} (h : Cl cs vs ℓ n n' r) (hN : n' ≤ N) (hN2 : N ≤ 240) (k : Nat) (S : Nat → Int32) : (∀ v, r = some v → evS cs vs ℓ N (k + (n' - n)) 0 false n S = v) ∧ (r = none → ∃ S', evS cs vs ℓ N (k + (n' - n)) 0 false n S = evS cs vs ℓ N k 0 false n' S') := by
  have ff : ¬ false = true := by decide
  rcases h with ⟨m, v, ⟨s1, s2, s3⟩, h2, h3, h4⟩ | ⟨m, c, m2, v, ⟨s1, s2, s3⟩, h2, ⟨u1, u2, u3⟩, h4, h5, h6⟩
  · subst h4
    refine ⟨fun w hw => ?_, fun z => by cases z⟩
    cases hw
    obtain ⟨S', e1, e2, e3⟩ := s3 0 S (by omega)
    have := ev_seg (N := N) (m - n) n 0 S (0 + 1) S' (k + 1) e1 (fun x a b => ⟨(s2 x a (by omega)).1, (s2 x a (by omega)).2.1⟩) (by omega)
    rw [show k + (n' - n) = k + 1 + (m - n) by omega, this, show n + (m - n) = m by omega, evS, if_neg (show ¬ N ≤ m by omega), if_neg ff, if_pos h2, if_neg (by omega)]
    exact e2
  · obtain ⟨S', e1, e2, e3⟩ := s3 0 S (by omega)
    have I := ev_seg (N := N) (m - n) n 0 S (0 + 1) S' (k + (n' - m)) e1 (fun x a b => ⟨(s2 x a (by omega)).1, (s2 x a (by omega)).2.1⟩) (by omega)
    have n59 : ¬ cs m = 59 := by rw [h2]; decide
    rw [show k + (n' - n) = k + (n' - m) + (m - n) by omega, I, show n + (m - n) = m by omega, show k + (n' - m) = (k + (m2 - m)) + 1 by omega, evS, if_neg (show ¬ N ≤ m by omega), if_neg ff, if_neg n59, if_pos h2, if_neg (by omega), show 0 + 1 - 1 = 0 from rfl, e2]
    by_cases q : c = 0
    · rw [if_pos q] at h6 ⊢
      subst h6
      refine ⟨fun w hw => (by cases hw), fun _ => ⟨S', ?_⟩⟩
      have J := ev_skip (cs := cs) (vs := vs) (ℓ := ℓ) (N := N) (m2 - (m + 1)) (m + 1) 0 S' (k + 1) (fun x a b => (u2 x a (by omega)).1) (by omega)
      rw [show k + (m2 - m) = k + 1 + (m2 - (m + 1)) by omega, J, show m + 1 + (m2 - (m + 1)) = m2 by omega, evS, if_neg (show ¬ N ≤ m2 by omega), if_pos rfl, if_pos h4, h5]
    · rw [if_neg q] at h6 ⊢
      subst h6
      refine ⟨fun w hw => ?_, fun z => by cases z⟩
      cases hw
      obtain ⟨S2, f1, f2, f3⟩ := u3 0 S' (by omega)
      have J := ev_seg (N := N) (m2 - (m + 1)) (m + 1) 0 S' (0 + 1) S2 (k + 1) f1 (fun x a b => ⟨(u2 x a (by omega)).1, (u2 x a (by omega)).2.1⟩) (by omega)
      rw [show k + (m2 - m) = k + 1 + (m2 - (m + 1)) by omega, J, show m + 1 + (m2 - (m + 1)) = m2 by omega, evS, if_neg (show ¬ N ≤ m2 by omega), if_neg ff, if_pos h4, if_neg (by omega)]
      exact f2
theorem ev_Cs (hN2 : N ≤ 240) : ∀ (c n' : Nat) (R : Option Int32), Cs cs vs ℓ c n' R → n' ≤ N → (∀ v, R = some v → ∀ k S, evS cs vs ℓ N (k + n') 0 false 0 S = v) ∧ (R = none → ∀ k S, ∃ S', evS cs vs ℓ N (k + n') 0 false 0 S = evS cs vs ℓ N k 0 false n' S') := by
  intro c
  induction c with
  | zero =>
    intro n' R h _
    obtain ⟨rfl, rfl⟩ := h
    exact ⟨fun v hv => (by cases hv), fun _ k S => ⟨S, rfl⟩⟩
  | succ c ih =>
    intro n' R h hN
    obtain ⟨m, r, R0, h1, h2, h3, h4⟩ := h
    obtain ⟨I1, I2⟩ := ih m R0 h1 (by omega)
    cases R0 with
    | some v =>
      have : R = some v := h4
      subst this
      refine ⟨fun w hw k S => ?_, fun z => by cases z⟩
      cases hw
      rw [show k + n' = k + (n' - m) + m by omega]
      exact I1 v rfl _ S
    | none =>
      have : R = r := h4
      subst this
      refine ⟨fun w hw k S => ?_, fun hr k S => ?_⟩
      · obtain ⟨S', e⟩ := I2 rfl (k + (n' - m)) S
        rw [show k + n' = k + (n' - m) + m by omega, e]
        exact (ev_Cl h3 hN hN2 k S').1 w hw
      · obtain ⟨S', e⟩ := I2 rfl (k + (n' - m)) S
        rw [show k + n' = k + (n' - m) + m by omega, e]
        exact (ev_Cl h3 hN hN2 k S').2 hr
theorem ev_all {c : Nat} {R : Option Int32} (hN2 : N ≤ 240) (h : Cs cs vs ℓ c N R) (S : Nat → Int32) : evS cs vs ℓ N BIG 0 false 0 S = R.getD 0 := by
  obtain ⟨h1, h2⟩ := ev_Cs hN2 c N R h (Nat.le_refl _)
  rw [show BIG = (BIG - N - 1 + 1) + N by unfold BIG; omega]
  cases R with
  | some v => exact h1 v rfl _ S
  | none =>
    obtain ⟨S', e⟩ := h2 rfl (BIG - N - 1 + 1) S
    rw [e, evS, if_pos (Nat.le_refl _)]
    rfl
theorem Cl_ck {n n' : Nat} {r : Option Int32} (h : Cl cs vs ℓ n n' r) (h0 : CK cs vs n) : CK cs vs n' := by
  have go : ∀ {a b v}, Seg cs vs ℓ a b v → CK cs vs a → CK cs vs b := fun {a b v} s k i hi => by
    by_cases q : i < a
    · exact k i q
    · rcases (s.2.1 i (by omega) hi).2.2 with e | e | e | e
      · exact Or.inr (Or.inr (Or.inl e))
      · exact Or.inr (Or.inr (Or.inr (Or.inl e)))
      · exact Or.inr (Or.inr (Or.inr (Or.inr (Or.inl e))))
      · exact Or.inr (Or.inr (Or.inr (Or.inr (Or.inr e))))
  have one : ∀ {a}, CK cs vs a → (cs a = 59 ∨ cs a = 63) → CK cs vs (a + 1) := fun {a} k e i hi => by
    by_cases q : i < a
    · exact k i q
    · have : i = a := by omega
      subst this
      rcases e with e | e
      · exact Or.inl e
      · exact Or.inr (Or.inl e)
  rcases h with ⟨m, v, s, h2, h3, h4⟩ | ⟨m, c, m2, v, s, h2, u, h4, h5, h6⟩
  · rw [h3]
    exact one (go s h0) (Or.inl h2)
  · rw [h5]
    exact one (go u (one (go s h0) (Or.inr h2))) (Or.inl h4)
theorem Cs_ck : ∀ (c n' : Nat) (R : Option Int32), Cs cs vs ℓ c n' R → CK cs vs n' := by
  intro c
  induction c with
  | zero =>
    intro n' R h i hi
    obtain ⟨rfl, -⟩ := h
    omega
  | succ c ih =>
    intro n' R h
    obtain ⟨m, r, R0, h1, h2, h3, h4⟩ := h
    exact Cl_ck h3 (ih m R0 h1)
end LawK
