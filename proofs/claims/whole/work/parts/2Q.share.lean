/-! who should read what: ways told by functions (0: no page, p + 1: the page p) -/
def Asg (nr np : Nat) (fe : Nat → Nat → Bool) (g : Nat → Nat) : Prop := (∀ r, r < nr → g r ≠ 0 → g r ≤ np ∧ fe r (g r - 1) = true) ∧ ∀ r s, r < nr → s < nr → g r ≠ 0 → g r = g s → r = s
def gs (g : Nat → Nat) : Nat → Nat
  | 0 => 0
  | n + 1 => if g n = 0 then gs g n else gs g n + 2 ^ n
def gm (g : Nat → Nat) : Nat → Nat
  | 0 => 0
  | n + 1 => if g n = 0 then gm g n else gm g n + 1
def gc (L : Nat → Nat → Nat) (g : Nat → Nat) : Nat → Nat
  | 0 => 0
  | n + 1 => if g n = 0 then gc L g n else gc L g n + L n (g n - 1)
theorem gs_s (g : Nat → Nat) (n : Nat) : gs g (n + 1) = if g n = 0 then gs g n else gs g n + 2 ^ n := rfl
theorem gm_s (g : Nat → Nat) (n : Nat) : gm g (n + 1) = if g n = 0 then gm g n else gm g n + 1 := rfl
theorem gc_s (L : Nat → Nat → Nat) (g : Nat → Nat) (n : Nat) : gc L g (n + 1) = if g n = 0 then gc L g n else gc L g n + L n (g n - 1) := rfl
def ugd (g : Nat → Nat) (r v : Nat) : Nat → Nat := fun x => if x = r then v else g x
theorem ugd_at (g : Nat → Nat) (r v : Nat) : ugd g r v r = v := by unfold ugd; rw [if_pos rfl]
theorem ugd_ne (g : Nat → Nat) {r v x : Nat} (h : x ≠ r) : ugd g r v x = g x := by unfold ugd; rw [if_neg h]
theorem gs_lt (g : Nat → Nat) (n : Nat) : gs g n < 2 ^ n := by
  induction n with
  | zero => show 0 < 1; omega
  | succ n ih => rw [gs_s, Nat.pow_succ]; split <;> omega
theorem bt_tab : ∀ n, n < 6 → ∀ a, a < 32 → a < 2 ^ n → ∀ r, r < 6 → (a + 2 ^ n) / 2 ^ r % 2 = if r = n then 1 else a / 2 ^ r % 2 := by decide +kernel
theorem pw5 {n : Nat} (h : n < 6) : 2 ^ n ≤ 32 := Nat.pow_le_pow_right (n := 2) (by omega) (show n ≤ 5 by omega)
theorem gs_bit (g : Nat → Nat) : ∀ n, n ≤ 6 → ∀ r, r < 6 → gs g n / 2 ^ r % 2 = if r < n ∧ g r ≠ 0 then 1 else 0 := by
  intro n
  induction n with
  | zero =>
    intro _ r _
    rw [if_neg (by omega)]
    show 0 / 2 ^ r % 2 = 0
    simp
  | succ n ih =>
    intro hn r hr
    have hl := gs_lt g n
    have h5 := pw5 (show n < 6 by omega)
    rw [gs_s]
    by_cases q : g n = 0
    · rw [if_pos q, ih (by omega) r hr]
      by_cases z : r = n
      · subst z; rw [if_neg (by omega), if_neg (by omega)]
      · by_cases y : r < n ∧ g r ≠ 0
        · rw [if_pos y, if_pos (by omega)]
        · rw [if_neg y, if_neg (by omega)]
    · rw [if_neg q, bt_tab n (by omega) _ (by omega) hl r hr]
      by_cases z : r = n
      · subst z; rw [if_pos rfl, if_pos ⟨by omega, q⟩]
      · rw [if_neg z, ih (by omega) r hr]
        by_cases y : r < n ∧ g r ≠ 0
        · rw [if_pos y, if_pos (by omega)]
        · rw [if_neg y, if_neg (by omega)]
theorem gs_pop (g : Nat → Nat) : ∀ n, n ≤ 6 → popN 12 (gs g n) = gm g n := by
  intro n
  induction n with
  | zero => intro _; show popN 12 0 = 0; decide
  | succ n ih =>
    intro hn
    rw [gs_s, gm_s]
    by_cases q : g n = 0
    · rw [if_pos q, if_pos q, ih (by omega)]
    · rw [if_neg q, if_neg q, pop_tab n (by omega) _ (gs_lt g n), ih (by omega)]
theorem up_all (L : Nat → Nat → Nat) {g : Nat → Nat} {r p : Nat} (h0 : g r = 0) (n : Nat) : gs (ugd g r (p + 1)) n = (if r < n then gs g n + 2 ^ r else gs g n) ∧ gm (ugd g r (p + 1)) n = (if r < n then gm g n + 1 else gm g n) ∧ gc L (ugd g r (p + 1)) n = (if r < n then gc L g n + L r p else gc L g n) := by
  induction n with
  | zero => exact ⟨rfl, rfl, rfl⟩
  | succ n ih =>
    rw [gs_s, gm_s, gc_s, gs_s, gm_s, gc_s]
    by_cases z : n = r
    · subst z
      rw [ugd_at, h0]
      rw [if_neg (by omega), if_neg (by omega), if_neg (by omega)] at ih
      simp only [Nat.add_sub_cancel, show ¬ p + 1 = 0 by omega, if_false, if_true, show n < n + 1 by omega, ih.1, ih.2.1, ih.2.2, and_self]
    · rw [ugd_ne g z]
      by_cases y : r < n
      · rw [if_pos y, if_pos y, if_pos y] at ih
        rw [if_pos (show r < n + 1 by omega), if_pos (show r < n + 1 by omega), if_pos (show r < n + 1 by omega), ih.1, ih.2.1, ih.2.2]
        split <;> omega
      · rw [if_neg y, if_neg y, if_neg y] at ih
        rw [if_neg (show ¬ r < n + 1 by omega), if_neg (show ¬ r < n + 1 by omega), if_neg (show ¬ r < n + 1 by omega), ih.1, ih.2.1, ih.2.2]
        split <;> omega
theorem ugd_back {g : Nat → Nat} {r p : Nat} (h : g r = p + 1) : ugd (ugd g r 0) r (p + 1) = g := by
  funext x
  by_cases z : x = r
  · subst z; rw [ugd_at, h]
  · rw [ugd_ne _ z, ugd_ne _ z]
theorem gc_le {L : Nat → Nat → Nat} (hL : ∀ r p, L r p ≤ 108) (g : Nat → Nat) (n : Nat) : gc L g n ≤ 108 * n := by
  induction n with
  | zero => exact Nat.le_refl _
  | succ n ih =>
    rw [gc_s]
    have := hL n (g n - 1)
    split <;> omega
theorem gm_le (g : Nat → Nat) (n : Nat) : gm g n ≤ n := by
  induction n with
  | zero => exact Nat.le_refl _
  | succ n ih => rw [gm_s]; split <;> omega
section Dp
variable {nr np : Nat} {fe : Nat → Nat → Bool} {L : Nat → Nat → Nat}
theorem Asg.up {g : Nat → Nat} (h : Asg nr np fe g) {r p : Nat} (hp : p < np) (hf : fe r p = true) (hn : ∀ s, s < nr → g s ≠ p + 1) : Asg nr np fe (ugd g r (p + 1)) := by
  refine ⟨fun s hs h0 => ?_, fun s t hs ht h0 e => ?_⟩
  · by_cases z : s = r
    · subst z; rw [ugd_at]; exact ⟨by omega, by rw [Nat.add_sub_cancel]; exact hf⟩
    · rw [ugd_ne g z] at h0 ⊢; exact h.1 s hs h0
  · by_cases z : s = r
    · by_cases y : t = r
      · omega
      · rw [z, ugd_at, ugd_ne g y] at e; exact absurd e.symm (hn t ht)
    · by_cases y : t = r
      · rw [y, ugd_at, ugd_ne g z] at e; exact absurd e (hn s hs)
      · rw [ugd_ne g z] at h0 e; rw [ugd_ne g y] at e; exact h.2 s t hs ht h0 e
theorem Asg.clr {g : Nat → Nat} (h : Asg nr np fe g) (r : Nat) : Asg nr np fe (ugd g r 0) := by
  refine ⟨fun s hs h0 => ?_, fun s t hs ht h0 e => ?_⟩
  · by_cases z : s = r
    · subst z; rw [ugd_at] at h0; exact absurd rfl h0
    · rw [ugd_ne g z] at h0 ⊢; exact h.1 s hs h0
  · by_cases z : s = r
    · subst z; rw [ugd_at] at h0; exact absurd rfl h0
    · by_cases y : t = r
      · rw [ugd_ne g z] at h0 e; rw [y, ugd_at] at e; exact absurd e h0
      · rw [ugd_ne g z] at h0 e; rw [ugd_ne g y] at e; exact h.2 s t hs ht h0 e
theorem Asg.zero : Asg nr np fe (fun _ => 0) := ⟨fun _ _ h => absurd rfl h, fun _ _ _ _ h => absurd rfl h⟩
def Img (nr q : Nat) (g : Nat → Nat) : Prop := ∀ r, r < nr → g r ≤ q
def DPI (nr np : Nat) (fe : Nat → Nat → Bool) (L : Nat → Nat → Nat) (q : Nat) (A : Nat → Nat) : Prop :=
  (∀ s, s < 64 → A s < 1000000 → ∃ g, Asg nr np fe g ∧ Img nr q g ∧ gs g nr = s ∧ gc L g nr = A s) ∧ (∀ g, Asg nr np fe g → Img nr q g → A (gs g nr) ≤ gc L g nr) ∧ ∀ s, s < 64 → A s ≤ 1000000
def dpV (A : Nat → Nat) (nx : Nat → Bool) (Lq : Nat → Nat) (set : Nat) : Nat → Nat
  | 0 => A set
  | r + 1 => if set / 2 ^ r % 2 = 1 ∧ A (set - 2 ^ r) < 1000000 ∧ nx r = true then min (dpV A nx Lq set r) (A (set - 2 ^ r) + Lq r) else dpV A nx Lq set r
theorem dpV_s (A : Nat → Nat) (nx : Nat → Bool) (Lq : Nat → Nat) (set r : Nat) : dpV A nx Lq set (r + 1) = if set / 2 ^ r % 2 = 1 ∧ A (set - 2 ^ r) < 1000000 ∧ nx r = true then min (dpV A nx Lq set r) (A (set - 2 ^ r) + Lq r) else dpV A nx Lq set r := rfl
theorem dpV_spec (A : Nat → Nat) (nx : Nat → Bool) (Lq : Nat → Nat) (set n : Nat) : dpV A nx Lq set n ≤ A set ∧ (∀ r, r < n → set / 2 ^ r % 2 = 1 → A (set - 2 ^ r) < 1000000 → nx r = true → dpV A nx Lq set n ≤ A (set - 2 ^ r) + Lq r) ∧ (dpV A nx Lq set n = A set ∨ ∃ r, r < n ∧ set / 2 ^ r % 2 = 1 ∧ A (set - 2 ^ r) < 1000000 ∧ nx r = true ∧ dpV A nx Lq set n = A (set - 2 ^ r) + Lq r) := by
  induction n with
  | zero => exact ⟨Nat.le_refl _, fun r hr => by omega, Or.inl rfl⟩
  | succ n ih =>
    obtain ⟨h1, h2, h3⟩ := ih
    rw [dpV_s]
    by_cases q : set / 2 ^ n % 2 = 1 ∧ A (set - 2 ^ n) < 1000000 ∧ nx n = true
    · rw [if_pos q]
      refine ⟨by omega, fun r hr a b c => ?_, ?_⟩
      · by_cases z : r = n
        · subst z; omega
        · have := h2 r (by omega) a b c; omega
      · by_cases z : dpV A nx Lq set n ≤ A (set - 2 ^ n) + Lq n
        · rw [Nat.min_eq_left z]
          rcases h3 with h3 | ⟨r, a, b⟩
          · exact Or.inl h3
          · exact Or.inr ⟨r, by omega, b⟩
        · rw [Nat.min_eq_right (by omega)]
          exact Or.inr ⟨n, by omega, q.1, q.2.1, q.2.2, rfl⟩
    · rw [if_neg q]
      refine ⟨h1, fun r hr a b c => ?_, ?_⟩
      · by_cases z : r = n
        · subst z; exact absurd ⟨a, b, c⟩ q
        · exact h2 r (by omega) a b c
      · rcases h3 with h3 | ⟨r, a, b⟩
        · exact Or.inl h3
        · exact Or.inr ⟨r, by omega, b⟩
theorem sub_bit : ∀ s, s < 64 → ∀ r, r < 6 → s / 2 ^ r % 2 = 1 → 2 ^ r ≤ s ∧ s - 2 ^ r < 64 ∧ (s - 2 ^ r) / 2 ^ r % 2 = 0 := by decide +kernel
theorem dp_step {q : Nat} {A : Nat → Nat} {nx : Nat → Bool} (h6 : nr ≤ 6) (hq : q < np) (hL : ∀ r p, L r p ≤ 108) (hf : ∀ r, r < nr → fe r q = nx r) (h : DPI nr np fe L q A) : DPI nr np fe L (q + 1) (fun s => dpV A nx (fun r => L r q) s nr) := by
  obtain ⟨h1, h2, h3⟩ := h
  refine ⟨fun s hs hA => ?_, fun g hg hi => ?_, fun s hs => ?_⟩
  · dsimp only at hA
    obtain ⟨-, -, sp⟩ := dpV_spec A nx (fun r => L r q) s nr
    rcases sp with e | ⟨r, hr, b1, b2, b3, e⟩
    · rw [e] at hA
      obtain ⟨g, a1, a2, a3, a4⟩ := h1 s hs hA
      exact ⟨g, a1, fun r hr => by have := a2 r hr; omega, a3, by dsimp only; rw [e]; exact a4⟩
    · obtain ⟨c1, c2, c3⟩ := sub_bit s hs r (by omega) b1
      obtain ⟨g, a1, a2, a3, a4⟩ := h1 (s - 2 ^ r) c2 b2
      have hb := gs_bit g nr h6 r (by omega)
      rw [a3, c3] at hb
      have g0 : g r = 0 := by
        refine Classical.byContradiction fun z => ?_
        rw [if_pos ⟨hr, z⟩] at hb
        omega
      obtain ⟨u1, u2, u3⟩ := up_all L (p := q) g0 nr
      refine ⟨ugd g r (q + 1), a1.up hq (by rw [hf r hr]; exact b3) (fun t ht => by have := a2 t ht; omega), fun t ht => ?_, ?_, ?_⟩
      · by_cases z : t = r
        · subst z; rw [ugd_at]; omega
        · rw [ugd_ne g z]; have := a2 t ht; omega
      · rw [u1, if_pos hr, a3]; omega
      · rw [u3, if_pos hr, a4]; dsimp only; rw [e]
  · dsimp only
    by_cases z : ∃ r, r < nr ∧ g r = q + 1
    · obtain ⟨r, hr, e⟩ := z
      have g0 : ugd g r 0 r = 0 := ugd_at _ _ _
      obtain ⟨u1, u2, u3⟩ := up_all L (p := q) g0 nr
      rw [ugd_back e, if_pos hr] at u1 u3
      have c1 := hg.clr r
      have c2 : Img nr q (ugd g r 0) := fun t ht => by
        by_cases z : t = r
        · subst z; rw [ugd_at]; omega
        · rw [ugd_ne g z]
          have i1 := hi t ht
          have : g t ≠ q + 1 := fun y => z (hg.2 t r ht hr (by omega) (by rw [y, e]))
          omega
      have c3 := h2 _ c1 c2
      have c4 := gc_le hL (ugd g r 0) nr
      have hb := gs_bit g nr h6 r (by omega)
      rw [if_pos ⟨hr, by omega⟩] at hb
      have hf1 : nx r = true := by
        rw [← hf r hr]
        have := (hg.1 r hr (by omega)).2
        rwa [e, Nat.add_sub_cancel] at this
      have e2 : gs g nr - 2 ^ r = gs (ugd g r 0) nr := by omega
      have := (dpV_spec A nx (fun r => L r q) (gs g nr) nr).2.1 r hr hb (by rw [e2]; omega) hf1
      rw [e2] at this
      omega
    · have c2 : Img nr q g := fun t ht => by
        have i1 := hi t ht
        have : g t ≠ q + 1 := fun y => z ⟨t, ht, y⟩
        omega
      have := (dpV_spec A nx (fun r => L r q) (gs g nr) nr).1
      have := h2 g hg c2
      omega
  · have := (dpV_spec A nx (fun r => L r q) s nr).1
    have := h3 s hs
    dsimp only
    omega
theorem dp_skip {q : Nat} {A : Nat → Nat} (hf : ∀ r, r < nr → fe r q = false) (h : DPI nr np fe L q A) : DPI nr np fe L (q + 1) A := by
  obtain ⟨h1, h2, h3⟩ := h
  refine ⟨fun s hs hA => ?_, fun g hg hi => ?_, h3⟩
  · obtain ⟨g, a1, a2, a3⟩ := h1 s hs hA
    exact ⟨g, a1, fun r hr => by have := a2 r hr; omega, a3⟩
  · refine h2 g hg (fun t ht => ?_)
    have i1 := hi t ht
    have : g t ≠ q + 1 := fun y => by
      have := (hg.1 t ht (by omega)).2
      rw [y, Nat.add_sub_cancel, hf t ht] at this
      cases this
    omega
theorem dp_zero (h6 : nr ≤ 6) : DPI nr np fe L 0 (fun s => if s = 0 then 0 else 1000000) := by
  have zr : ∀ (g : Nat → Nat) n, (∀ r, r < n → g r = 0) → gs g n = 0 ∧ gc L g n = 0 := by
    intro g n
    induction n with
    | zero => intro _; exact ⟨rfl, rfl⟩
    | succ n ih =>
      intro h
      rw [gs_s, gc_s, if_pos (h n (by omega)), if_pos (h n (by omega))]
      exact ih (fun r hr => h r (by omega))
  refine ⟨fun s hs hA => ?_, fun g hg hi => ?_, fun s hs => ?_⟩
  · dsimp only at hA
    by_cases z : s = 0
    · subst z
      obtain ⟨a, b⟩ := zr (fun _ => 0) nr (fun _ _ => rfl)
      exact ⟨fun _ => 0, Asg.zero, fun _ _ => Nat.le_refl _, a, b⟩
    · rw [if_neg z] at hA; omega
  · obtain ⟨a, b⟩ := zr g nr (fun r hr => by have := hi r hr; omega)
    rw [a]; dsimp only; rw [if_pos rfl]; omega
  · dsimp only; split <;> omega
/-- the best: so many, at such a cost -/
def Opt (nr np : Nat) (fe : Nat → Nat → Bool) (L : Nat → Nat → Nat) (M C : Nat) : Prop := (∃ g, Asg nr np fe g ∧ gm g nr = M ∧ gc L g nr = C) ∧ ∀ g, Asg nr np fe g → gm g nr < M ∨ gm g nr = M ∧ C ≤ gc L g nr
theorem Opt.uniq {M C M' C' : Nat} (h : Opt nr np fe L M C) (h' : Opt nr np fe L M' C') : M = M' ∧ C = C' := by
  obtain ⟨⟨g, a1, a2, a3⟩, b⟩ := h
  obtain ⟨⟨g', a1', a2', a3'⟩, b'⟩ := h'
  have := b g' a1'
  have := b' g a1
  omega
end Dp
