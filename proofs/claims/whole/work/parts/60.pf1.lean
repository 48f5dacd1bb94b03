/-! pure: labels and joins; FR: the class's forest holds the joined arcs -/
def mrg (p q z : Nat) : Nat := if z = p ∨ z = q then min p q else z
theorem unN_mrg (L : Nat → Nat) (x y a : Nat) : unN L x y a = mrg x y (L a) := rfl
theorem mrg_self (p z : Nat) : mrg p p z = z := by simp only [mrg]; split <;> omega
theorem mrg_swap (p q z : Nat) : mrg p q z = mrg q p z := by simp only [mrg]; split <;> split <;> omega
theorem mrg_eq {p q z w : Nat} (h : mrg p q z = mrg p q w) : z = w ∨ ((z = p ∨ z = q) ∧ (w = p ∨ w = q)) ∨ ((z = p ∨ z = q) ∧ w = min p q) ∨ ((w = p ∨ w = q) ∧ z = min p q) := by
  simp only [mrg] at h
  split at h <;> split at h <;> omega
theorem mrg_comm {X Y A B z : Nat} (h1 : X ≠ Y) (h2 : A ≠ B) (h3 : ¬ (A = X ∧ B = Y)) (h4 : ¬ (A = Y ∧ B = X)) : mrg (mrg X Y A) (mrg X Y B) (mrg X Y z) = mrg (mrg A B X) (mrg A B Y) (mrg A B z) := by
  simp only [mrg]
  repeat' split
  all_goals omega
theorem lab_idem (u v : Nat → Nat) (g : Nat) : ∀ i a, lab u v g i (lab u v g i a) = lab u v g i a
  | 0, a => rfl
  | i + 1, a => by
    have h := lab_idem u v g i
    rw [lab_succ]
    simp only [unN_mrg]
    have e1 := h a
    have e2 := h (u (g - 1 - i))
    have e3 := h (v (g - 1 - i))
    generalize lab u v g i (u (g - 1 - i)) = p at *
    generalize lab u v g i (v (g - 1 - i)) = q at *
    generalize lab u v g i a = z at *
    have em : lab u v g i (mrg p q z) = mrg p q z := by
      simp only [mrg]
      split
      · rcases Nat.le_total p q with w | w
        · rw [Nat.min_eq_left w]; exact e2
        · rw [Nat.min_eq_right w]; exact e3
      · exact e1
    rw [em]
    simp only [mrg]
    repeat' split
    all_goals omega
theorem jnd_f {u v : Nat → Nat} {g i : Nat} (h : jnd u v g i = false) : lab u v g (i + 1) = lab u v g i := by
  funext a
  have e : lab u v g i (u (g - 1 - i)) = lab u v g i (v (g - 1 - i)) := by simpa [jnd] using h
  rw [lab_succ, unN_mrg, e, mrg_self]
theorem cj_t {u v : Nat → Nat} {g i : Nat} (h : jnd u v g i = true) : cj u v g (i + 1) = cj u v g i + 1 := by simp [cj, h]
theorem cj_f {u v : Nat → Nat} {g i : Nat} (h : jnd u v g i = false) : cj u v g (i + 1) = cj u v g i := by simp [cj, h]
theorem cj_mono (u v : Nat → Nat) (g : Nat) {i : Nat} : ∀ j, i ≤ j → cj u v g i ≤ cj u v g j := by
  intro j hj
  induction j with
  | zero => rw [show i = 0 by omega]; exact Nat.le_refl _
  | succ j ih =>
    by_cases e : i = j + 1
    · rw [e]; exact Nat.le_refl _
    · have := ih (by omega)
      cases h : jnd u v g j with
      | true => rw [cj_t h]; omega
      | false => rw [cj_f h]; omega
/-- roots -/
def rts (L : Nat → Nat) : Nat → Nat
  | 0 => 0
  | k + 1 => rts L k + (if L k = k then 1 else 0)
theorem rts_le {L M : Nat → Nat} {c : Nat} (h : ∀ a, M a = a → L a = a) (hc1 : L c = c) (hc2 : M c ≠ c) : ∀ k, rts M k + (if c < k then 1 else 0) ≤ rts L k
  | 0 => by simp [rts]
  | k + 1 => by
    have ih := rts_le h hc1 hc2 k
    simp only [rts]
    by_cases e : k = c
    · subst e
      rw [if_neg hc2, if_pos hc1]
      simp only [Nat.lt_irrefl, if_false] at ih
      rw [if_pos (Nat.lt_succ_self k)]
      omega
    · have e1 : (c < k + 1) ↔ c < k := by omega
      simp only [e1]
      by_cases m : M k = k
      · rw [if_pos m, if_pos (h k m)]; omega
      · rw [if_neg m]
        split at ih <;> split <;> omega
theorem cj_rts {u v : Nat → Nat} {g nn : Nat} (hb : ∀ t, t < g → u t < nn ∧ v t < nn) : ∀ i, i ≤ g → cj u v g i + rts (lab u v g i) nn ≤ nn
  | 0, _ => by
    have : ∀ k, rts (lab u v g 0) k = k := by
      intro k
      induction k with
      | zero => rfl
      | succ k ih => simp only [rts, ih]; rw [if_pos (show lab u v g 0 k = k from rfl)]
    rw [this]
    simp [cj]
  | i + 1, hi => by
    have ih := cj_rts hb i (by omega)
    cases h : jnd u v g i with
    | false => rw [cj_f h, jnd_f h]; exact ih
    | true =>
      rw [cj_t h]
      obtain ⟨b1, b2⟩ := hb (g - 1 - i) (by omega)
      have i1 := lab_idem u v g i (u (g - 1 - i))
      have i2 := lab_idem u v g i (v (g - 1 - i))
      have l1 := lab_le u v g i (u (g - 1 - i))
      have l2 := lab_le u v g i (v (g - 1 - i))
      have hne : lab u v g i (u (g - 1 - i)) ≠ lab u v g i (v (g - 1 - i)) := by simpa [jnd] using h
      have hm : ∀ a, lab u v g (i + 1) a = mrg (lab u v g i (u (g - 1 - i))) (lab u v g i (v (g - 1 - i))) (lab u v g i a) := fun a => by rw [lab_succ, unN_mrg]
      generalize lab u v g i (u (g - 1 - i)) = p at *
      generalize lab u v g i (v (g - 1 - i)) = q at *
      have key := rts_le (L := lab u v g i) (M := lab u v g (i + 1)) (c := max p q) (fun a ha => by
        rw [hm] at ha
        have la := lab_le u v g i a
        simp only [mrg] at ha
        split at ha
        · next hh =>
          have : a = p ∨ a = q := by omega
          rcases this with e | e
          · rw [e]; exact i1
          · rw [e]; exact i2
        · exact ha) (by
        rcases Nat.le_total p q with w | w
        · rw [Nat.max_eq_right w]; exact i2
        · rw [Nat.max_eq_left w]; exact i1) (by
        rw [hm]
        have e : lab u v g i (max p q) = max p q := by
          rcases Nat.le_total p q with w | w
          · rw [Nat.max_eq_right w]; exact i2
          · rw [Nat.max_eq_left w]; exact i1
        rw [e]
        simp only [mrg]
        split <;> omega) nn
      rw [if_pos (by omega)] at key
      omega
theorem cj_lt {u v : Nat → Nat} {g nn : Nat} (hn : 0 < nn) (hb : ∀ t, t < g → u t < nn ∧ v t < nn) : cj u v g g < nn := by
  have h := cj_rts hb g (Nat.le_refl g)
  have h0 : lab u v g g 0 = 0 := by have := lab_le u v g g 0; omega
  have : ∀ k, 0 < k → 0 < rts (lab u v g g) k := by
    intro k hk
    induction k with
    | zero => omega
    | succ k ih =>
      simp only [rts]
      by_cases e : k = 0
      · subst e; rw [if_pos h0]; omega
      · have := ih (by omega); omega
  have := this nn hn
  omega
def FR (u v : Nat → Nat) (g fn : Nat) (ft fk : Nat → Int32) : Prop := fn = cj u v g g ∧ ∀ i, i < g → jnd u v g i = true → ft (fn - 1 - cj u v g i) = nI (g - i) ∧ fk (fn - 1 - cj u v g i) = nI (64 * u (g - 1 - i) + v (g - 1 - i))
/-- every place of the forest is that of a joined arc -/
theorem cj_surj (u v : Nat → Nat) (g : Nat) : ∀ n k, k < cj u v g n → ∃ i, i < n ∧ jnd u v g i = true ∧ cj u v g i = k
  | 0, k, h => by simp [cj] at h
  | n + 1, k, h => by
    cases hj : jnd u v g n with
    | false =>
      rw [cj_f hj] at h
      obtain ⟨i, a, b, c⟩ := cj_surj u v g n k h
      exact ⟨i, by omega, b, c⟩
    | true =>
      rw [cj_t hj] at h
      by_cases e : k = cj u v g n
      · exact ⟨n, by omega, hj, e.symm⟩
      · obtain ⟨i, a, b, c⟩ := cj_surj u v g n k (by omega)
        exact ⟨i, by omega, b, c⟩
theorem FR.arc {u v : Nat → Nat} {g fn : Nat} {ft fk : Nat → Int32} (h : FR u v g fn ft fk) (hb : ∀ t, t < g → u t < 64 ∧ v t < 64) : ∃ fu fv : Nat → Nat, fArc fn fk fu fv ∧ ∀ i, i < g → jnd u v g i = true → fu (fn - 1 - cj u v g i) = u (g - 1 - i) ∧ fv (fn - 1 - cj u v g i) = v (g - 1 - i) := by
  have key : ∀ k, k < fn → ∃ i, i < g ∧ jnd u v g i = true ∧ fn - 1 - cj u v g i = k := by
    intro k hk
    obtain ⟨i, h1, h2, h3⟩ := cj_surj u v g g (fn - 1 - k) (by rw [← h.1]; omega)
    exact ⟨i, h1, h2, by omega⟩
  refine ⟨fun k => (fk k).toNatClampNeg / 64, fun k => (fk k).toNatClampNeg % 64, fun k hk => ?_, fun i hi hj => ?_⟩
  · obtain ⟨i, h1, h2, h3⟩ := key k hk
    obtain ⟨b1, b2⟩ := hb (g - 1 - i) (by omega)
    have e := (h.2 i h1 h2).2
    rw [h3] at e
    simp only [e]
    rw [cl_nI (by omega)]
    exact ⟨by congr 1; omega, by omega, by omega⟩
  · obtain ⟨b1, b2⟩ := hb (g - 1 - i) (by omega)
    simp only [(h.2 i hi hj).2]
    rw [cl_nI (by omega)]
    exact ⟨by omega, by omega⟩
