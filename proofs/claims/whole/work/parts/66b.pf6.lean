/-! pure: places -/
theorem ahdB_iff (f : Nat → Int32) (a b : Nat) : ahdB f a b = true ↔ (f a).toInt < (f b).toInt ∨ ((f b).toInt = (f a).toInt ∧ b < a) := by
  simp only [ahdB, Bool.or_eq_true, Bool.and_eq_true, decide_eq_true_iff, Int32.lt_iff_toInt_lt, ← Int32.toInt_inj]
theorem ahd_lt {f : Nat → Int32} {a b : Nat} (hb : b < 64) (h : ahdB f a b = true) : ahd f b 64 < ahd f a 64 := by
  rw [ahd_cn, ahd_cn]
  refine cn_lt (c := b) ?_ h 64 hb (fun k _ hk => ?_)
  · cases e : ahdB f b b with
    | false => rfl
    | true => rw [ahdB_iff] at e; omega
  · rw [ahdB_iff] at *; omega
theorem ahd_tot (f : Nat → Int32) {a b : Nat} (h : a ≠ b) : ahdB f a b = true ∨ ahdB f b a = true := by
  rw [ahdB_iff, ahdB_iff]; omega
theorem ahd_inj {f : Nat → Int32} {a b : Nat} (ha : a < 64) (hb : b < 64) (h : ahd f a 64 = ahd f b 64) : a = b := by
  rcases Nat.decEq a b with e | e
  · rcases ahd_tot f e with q | q
    · have := ahd_lt hb q; omega
    · have := ahd_lt ha q; omega
  · exact e
theorem rnk_is {f : Nat → Int32} {p k : Nat} (hk : k < 64) (h : ahd f k 64 = p) : ∀ m, m ≤ 64 → 64 - m ≤ k → rnk f p m = k
  | 0, _, hm => by omega
  | m + 1, hm, hl => by
    rw [rnk]
    by_cases e : 64 - (m + 1) = k
    · rw [e, if_pos h]
    · rw [if_neg (fun q => e (ahd_inj (by omega) hk (q.trans h.symm)))]
      exact rnk_is hk h m (by omega) (by omega)
theorem gB_spec (f : Nat → Int32) (ps : Int64) : ∀ n, (gB f ps n = (-2, 0) ∧ ∀ k, k < n → bt ps k = false → (f k).toInt ≤ 0) ∨ ∃ k, k < n ∧ gB f ps n = (nI k, f k) ∧ bt ps k = false ∧ 0 < (f k).toInt ∧ ∀ j, j < n → bt ps j = false → j ≠ k → ahdB f j k = true
  | 0 => .inl ⟨rfl, fun k hk => by omega⟩
  | n + 1 => by
    rw [gB]
    rcases gB_spec f ps n with ⟨h1, h2⟩ | ⟨k, h1, h2, h3, h4, h5⟩
    · rw [h1]
      simp only [Int32.le_iff_toInt_le, i_0]
      by_cases hc : (f n).toInt ≤ 0 ∨ bt ps n = true
      · rw [if_pos hc]
        refine .inl ⟨rfl, fun k hk hb => ?_⟩
        by_cases e : k = n
        · subst e
          rcases hc with hc | hc
          · exact hc
          · rw [hb] at hc; exact absurd hc (by decide)
        · exact h2 k (by omega) hb
      · rw [if_neg hc]
        have hb : bt ps n = false := by
          cases e : bt ps n with
          | false => rfl
          | true => exact absurd (.inr e) hc
        refine .inr ⟨n, by omega, rfl, hb, by omega, fun j hj hjb hne => ?_⟩
        have := h2 j (by omega) hjb
        rw [ahdB_iff]
        omega
    · rw [h2]
      simp only [Int32.le_iff_toInt_le]
      by_cases hc : (f n).toInt ≤ (f k).toInt ∨ bt ps n = true
      · rw [if_pos hc]
        refine .inr ⟨k, by omega, rfl, h3, h4, fun j hj hjb hne => ?_⟩
        by_cases e : j = n
        · subst e
          rcases hc with hc | hc
          · rw [ahdB_iff]; omega
          · rw [hjb] at hc; exact absurd hc (by decide)
        · exact h5 j (by omega) hjb hne
      · rw [if_neg hc]
        have hb : bt ps n = false := by
          cases e : bt ps n with
          | false => rfl
          | true => exact absurd (.inr e) hc
        refine .inr ⟨n, by omega, rfl, hb, by omega, fun j hj hjb hne => ?_⟩
        by_cases e : j = k
        · subst e; rw [ahdB_iff]; omega
        · have := h5 j (by omega) hjb e
          rw [ahdB_iff] at *
          omega
theorem m2_nI : ∀ k, k < 64 → ¬ nI k = -2 := by decide +kernel
theorem nap_spec {f : Nat → Int32} {nn : Nat} (hnn : nn ≤ 64) (hz : ∀ a, nn ≤ a → a < 64 → (f a).toInt ≤ 0) : ∀ r j ps, (∀ a, a < 64 → bt ps a = true → 0 < (f a).toInt) → cn (bt ps) 64 = j → (∀ a, a < 64 → (bt ps a = true ↔ ahd f a 64 < j)) →
    (j + r < cntP f 64 → ∃ k, k < nn ∧ nap f nn r ps = nI k ∧ ahd f k 64 = j + r) ∧ (cntP f 64 ≤ j + r → nap f nn r ps = -2) := by
  intro r
  induction r with
  | zero =>
    intro j ps i1 i2 i3
    rw [nap]
    rcases gB_spec f ps nn with ⟨h1, h2⟩ | ⟨k, h1, h2, h3, h4, h5⟩
    · rw [h1]
      refine ⟨fun hlt => ?_, fun _ => rfl⟩
      have : cntP f 64 ≤ cn (bt ps) 64 := by
        rw [cntP_cn]
        refine cn_le 64 (fun k hk hp => ?_)
        rw [decide_eq_true_iff, Int32.lt_iff_toInt_lt, i_0] at hp
        cases e : bt ps k with
        | true => rfl
        | false =>
          by_cases hkn : k < nn
          · have := h2 k hkn e; omega
          · have := hz k (by omega) hk; omega
      omega
    · have hk6 : k < 64 := by omega
      have hah : ahd f k 64 = j := by
        rw [ahd_cn, ← i2]
        refine cn_congr 64 (fun a ha => ?_)
        cases e : bt ps a with
        | true =>
          have hne : k ≠ a := fun q => by rw [q, e] at h3; exact absurd h3 (by decide)
          rcases ahd_tot f hne with q | q
          · exact q
          · have q1 := ahd_lt hk6 q
            have q2 := (i3 a ha).mp e
            have q3 := (i3 k hk6).mpr (by omega)
            rw [q3] at h3; exact absurd h3 (by decide)
        | false =>
          cases e2 : ahdB f k a with
          | false => rfl
          | true =>
            exfalso
            by_cases ek : a = k
            · subst ek; rw [ahdB_iff] at e2; omega
            · by_cases hkn : a < nn
              · have := h5 a hkn e ek
                rw [ahdB_iff] at *; omega
              · have := hz a (by omega) ha
                rw [ahdB_iff] at *; omega
      have hlt : j + 1 ≤ cntP f 64 := by
        rw [cntP_cn, ← i2]
        refine cn_lt (c := k) h3 (by rw [decide_eq_true_iff, Int32.lt_iff_toInt_lt, i_0]; exact h4) 64 hk6 (fun a ha hb => by rw [decide_eq_true_iff, Int32.lt_iff_toInt_lt, i_0]; exact i1 a ha hb)
      rw [h2]
      exact ⟨fun _ => ⟨k, h1, rfl, hah⟩, fun h => by omega⟩
  | succ r ih =>
    intro j ps i1 i2 i3
    rw [nap]
    rcases gB_spec f ps nn with ⟨h1, h2⟩ | ⟨k, h1, h2, h3, h4, h5⟩
    · rw [h1]
      refine ⟨fun hlt => ?_, fun _ => if_pos rfl⟩
      have : cntP f 64 ≤ cn (bt ps) 64 := by
        rw [cntP_cn]
        refine cn_le 64 (fun k hk hp => ?_)
        rw [decide_eq_true_iff, Int32.lt_iff_toInt_lt, i_0] at hp
        cases e : bt ps k with
        | true => rfl
        | false =>
          by_cases hkn : k < nn
          · have := h2 k hkn e; omega
          · have := hz k (by omega) hk; omega
      omega
    · have hk6 : k < 64 := by omega
      have hah : ahd f k 64 = j := by
        rw [ahd_cn, ← i2]
        refine cn_congr 64 (fun a ha => ?_)
        cases e : bt ps a with
        | true =>
          have hne : k ≠ a := fun q => by rw [q, e] at h3; exact absurd h3 (by decide)
          rcases ahd_tot f hne with q | q
          · exact q
          · have q1 := ahd_lt hk6 q
            have q2 := (i3 a ha).mp e
            have q3 := (i3 k hk6).mpr (by omega)
            rw [q3] at h3; exact absurd h3 (by decide)
        | false =>
          cases e2 : ahdB f k a with
          | false => rfl
          | true =>
            exfalso
            by_cases ek : a = k
            · subst ek; rw [ahdB_iff] at e2; omega
            · by_cases hkn : a < nn
              · have := h5 a hkn e ek
                rw [ahdB_iff] at *; omega
              · have := hz a (by omega) ha
                rw [ahdB_iff] at *; omega
      rw [h2]
      simp only []
      rw [if_neg (m2_nI k hk6)]
      have hbt : ∀ a, a < 64 → bt (ps ||| (1 <<< ((nI k).toInt64 &&& 63))) a = (bt ps a || decide (a = k)) := fun a ha => by
        rw [bt_or, show ((1 : Int64) <<< ((nI k).toInt64 &&& 63)) = one k from rfl, bt_one k hk6 a ha]
      have := ih (j + 1) (ps ||| (1 <<< ((nI k).toInt64 &&& 63))) (fun a ha hb => by
          rw [hbt a ha, Bool.or_eq_true, decide_eq_true_iff] at hb
          rcases hb with hb | hb
          · exact i1 a ha hb
          · rw [hb]; exact h4) (by
          rw [← i2]
          refine cn_put (c := k) h3 (by rw [hbt k hk6]; simp) 64 hk6 (fun a ha hne => by rw [hbt a ha]; simp [hne])) (fun a ha => by
          rw [hbt a ha, Bool.or_eq_true, decide_eq_true_iff, i3 a ha]
          constructor
          · rintro (q | q)
            · omega
            · rw [q, hah]; omega
          · intro q
            by_cases q2 : ahd f a 64 < j
            · exact .inl q2
            · exact .inr (ahd_inj (f := f) ha hk6 (by omega)))
      rw [show j + (r + 1) = j + 1 + r by omega]
      exact this
theorem nap_is {f : Nat → Int32} {nn p : Nat} (hnn : nn ≤ 64) (hz : ∀ a, nn ≤ a → a < 64 → (f a).toInt ≤ 0) : (p < cntP f 64 → nap f nn p 0 = nI (rnk f p 64) ∧ rnk f p 64 < nn) ∧ (cntP f 64 ≤ p → nap f nn p 0 = -2) := by
  have c0 : cn (bt 0) 64 = 0 := by
    rw [cn_congr (r := fun _ => false) 64 (fun k _ => bt_0 k)]
    rfl
  have := nap_spec hnn hz p 0 0 (fun a _ h => by rw [bt_0] at h; exact absurd h (by decide)) c0 (fun a _ => by rw [bt_0]; simp)
  rw [Nat.zero_add] at this
  refine ⟨fun h => ?_, this.2⟩
  obtain ⟨k, h1, h2, h3⟩ := this.1 h
  rw [rnk_is (by omega) h3 64 (Nat.le_refl _) (by omega)]
  exact ⟨h2, h1⟩
