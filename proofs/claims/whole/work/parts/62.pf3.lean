/-! pure: the forest after one more arc -/
abbrev un (u : Nat → Nat) (g x : Nat) : Nat → Nat := fun t => if t = g then x else u t
theorem un_old {u : Nat → Nat} {g x i : Nat} (hi : i < g) : un u g x (g + 1 - 1 - (i + 1)) = u (g - 1 - i) := by
  simp only [un]; rw [if_neg (by omega)]; congr 1; omega
theorem mrg_ne {X Y A B : Nat} (h1 : X ≠ Y) (h2 : A ≠ B) (h3 : ¬ (A = X ∧ B = Y)) (h4 : ¬ (A = Y ∧ B = X)) : mrg X Y A ≠ mrg X Y B := by
  simp only [mrg]
  repeat' split
  all_goals omega
/-- the new labels and joins by the old ones -/
theorem lab_new {u v : Nat → Nat} {g x y : Nat} (hxy : x ≠ y) : ∀ i, i ≤ g →
    (¬ lab u v g i x = lab u v g i y → (∀ a, lab (un u g x) (un v g y) (g + 1) (i + 1) a = mrg (lab u v g i x) (lab u v g i y) (lab u v g i a)) ∧ cj (un u g x) (un v g y) (g + 1) (i + 1) = cj u v g i + 1) ∧
    (lab u v g i x = lab u v g i y → (∀ a, lab (un u g x) (un v g y) (g + 1) (i + 1) a = lab u v g i a) ∧ cj (un u g x) (un v g y) (g + 1) (i + 1) = cj u v g i)
  | 0, _ => by
    have e1 : un u g x (g + 1 - 1 - 0) = x := by simp [un]
    have e2 : un v g y (g + 1 - 1 - 0) = y := by simp [un]
    refine ⟨fun _ => ⟨fun a => ?_, ?_⟩, fun h => absurd h hxy⟩
    · rw [lab_succ, unN_mrg, e1, e2]; rfl
    · have : jnd (un u g x) (un v g y) (g + 1) 0 = true := by
        simp only [jnd, e1, e2]
        have : ¬ lab (un u g x) (un v g y) (g + 1) 0 x = lab (un u g x) (un v g y) (g + 1) 0 y := hxy
        simp [this]
      rw [cj_t this]; rfl
  | i + 1, hi => by
    obtain ⟨ih1, ih2⟩ := lab_new (u := u) (v := v) (g := g) hxy i (by omega)
    have e1 := un_old (u := u) (g := g) (x := x) (i := i) (by omega)
    have e2 := un_old (u := v) (g := g) (x := y) (i := i) (by omega)
    have s1 : ∀ a, lab (un u g x) (un v g y) (g + 1) (i + 1 + 1) a = mrg (lab (un u g x) (un v g y) (g + 1) (i + 1) (u (g - 1 - i))) (lab (un u g x) (un v g y) (g + 1) (i + 1) (v (g - 1 - i))) (lab (un u g x) (un v g y) (g + 1) (i + 1) a) := fun a => by
      rw [lab_succ, unN_mrg, e1, e2]
    have s2 : ∀ a, lab u v g (i + 1) a = mrg (lab u v g i (u (g - 1 - i))) (lab u v g i (v (g - 1 - i))) (lab u v g i a) := fun a => by
      rw [lab_succ, unN_mrg]
    have j1 : jnd (un u g x) (un v g y) (g + 1) (i + 1) = !decide (lab (un u g x) (un v g y) (g + 1) (i + 1) (u (g - 1 - i)) = lab (un u g x) (un v g y) (g + 1) (i + 1) (v (g - 1 - i))) := by
      simp only [jnd, e1, e2]
    have j2 : jnd u v g i = !decide (lab u v g i (u (g - 1 - i)) = lab u v g i (v (g - 1 - i))) := rfl
    have c1 : cj (un u g x) (un v g y) (g + 1) (i + 1 + 1) = cj (un u g x) (un v g y) (g + 1) (i + 1) + (bif jnd (un u g x) (un v g y) (g + 1) (i + 1) then 1 else 0) := rfl
    have c2 : cj u v g (i + 1) = cj u v g i + (bif jnd u v g i then 1 else 0) := rfl
    rw [j1] at c1
    rw [j2] at c2
    by_cases hc : lab u v g i x = lab u v g i y
    · obtain ⟨q1, q2⟩ := ih2 hc
      have hc1 : lab u v g (i + 1) x = lab u v g (i + 1) y := lb_mono hc _ (Nat.le_succ i)
      refine ⟨fun hn => absurd hc1 hn, fun _ => ⟨fun a => ?_, ?_⟩⟩
      · rw [s1, s2, q1, q1, q1]
      · rw [c1, c2, q1, q1, q2]
    · obtain ⟨q1, q2⟩ := ih1 hc
      simp only [q1] at s1 c1
      rw [q2] at c1
      have t1 := s2 x
      have t2 := s2 y
      generalize lab u v g i (u (g - 1 - i)) = A at *
      generalize lab u v g i (v (g - 1 - i)) = B at *
      by_cases hAB : A = B
      · subst hAB
        simp only [mrg_self] at s1 s2 t1 t2
        refine ⟨fun _ => ⟨fun a => ?_, ?_⟩, fun h => absurd h (by rw [t1, t2]; exact hc)⟩
        · rw [s1, s2, s2, s2]
        · rw [c1, c2]; simp
      · by_cases hp : (A = lab u v g i x ∧ B = lab u v g i y) ∨ (A = lab u v g i y ∧ B = lab u v g i x)
        · have e3 : mrg (lab u v g i x) (lab u v g i y) A = mrg (lab u v g i x) (lab u v g i y) B := by
            simp only [mrg]
            rw [if_pos (by omega), if_pos (by omega)]
          have e4 : ∀ z, mrg (lab u v g i x) (lab u v g i y) z = mrg A B z := fun z => by
            rcases hp with ⟨p1, p2⟩ | ⟨p1, p2⟩
            · rw [p1, p2]
            · rw [p1, p2, mrg_swap]
          have hc1 : lab u v g (i + 1) x = lab u v g (i + 1) y := by
            rw [t1, t2]
            simp only [mrg]
            rw [if_pos (by omega), if_pos (by omega)]
          refine ⟨fun hn => absurd hc1 hn, fun _ => ⟨fun a => ?_, ?_⟩⟩
          · rw [s1, s2, e3, mrg_self, e4]
          · rw [c1, c2, e3]; simp [hAB]
        · have n3 : ¬ (A = lab u v g i x ∧ B = lab u v g i y) := fun h => hp (.inl h)
          have n4 : ¬ (A = lab u v g i y ∧ B = lab u v g i x) := fun h => hp (.inr h)
          have hn1 : ¬ lab u v g (i + 1) x = lab u v g (i + 1) y := by
            rw [t1, t2]
            exact mrg_ne hAB hc (fun h => n3 ⟨h.1.symm, h.2.symm⟩) (fun h => n4 ⟨h.2.symm, h.1.symm⟩)
          refine ⟨fun _ => ⟨fun a => ?_, ?_⟩, fun h => absurd h hn1⟩
          · rw [s1, t1, t2, s2]
            exact mrg_comm hc hAB n3 n4
          · rw [c1, c2]
            simp [hAB, mrg_ne hc hAB n3 n4]
