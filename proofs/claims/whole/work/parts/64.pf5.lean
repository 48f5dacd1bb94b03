/-! pure: counting; the counters -/
def cn (q : Nat → Bool) : Nat → Nat
  | 0 => 0
  | k + 1 => cn q k + (bif q k then 1 else 0)
theorem cn_le {q r : Nat → Bool} : ∀ n, (∀ k, k < n → q k = true → r k = true) → cn q n ≤ cn r n
  | 0, _ => Nat.le_refl 0
  | n + 1, h => by
    have ih := cn_le (q := q) (r := r) n (fun k hk => h k (by omega))
    have := h n (by omega)
    simp only [cn]
    cases hq : q n with
    | false => simp only [cond_false]; omega
    | true => rw [this hq]; simp only [cond_true]; omega
theorem cn_lt {q r : Nat → Bool} {c : Nat} (hq : q c = false) (hr : r c = true) : ∀ n, c < n → (∀ k, k < n → q k = true → r k = true) → cn q n + 1 ≤ cn r n
  | 0, h, _ => by omega
  | n + 1, hc, h => by
    simp only [cn]
    by_cases e : c = n
    · subst e
      rw [hq, hr]
      have ih := cn_le (q := q) (r := r) c (fun k hk => h k (by omega))
      simp only [cond_true, cond_false]; omega
    · have ih := cn_lt (q := q) (r := r) hq hr n (by omega) (fun k hk => h k (by omega))
      have := h n (by omega)
      cases hq2 : q n with
      | false => simp only [cond_false]; omega
      | true => rw [this hq2]; simp only [cond_true]; omega
theorem cn_congr {q r : Nat → Bool} : ∀ n, (∀ k, k < n → q k = r k) → cn q n = cn r n
  | 0, _ => rfl
  | n + 1, h => by rw [cn, cn, cn_congr n (fun k hk => h k (by omega)), h n (by omega)]
theorem cn_put {q r : Nat → Bool} {c : Nat} (hq : q c = false) (hr : r c = true) : ∀ n, c < n → (∀ k, k < n → k ≠ c → r k = q k) → cn r n = cn q n + 1
  | 0, h, _ => by omega
  | n + 1, hc, h => by
    simp only [cn]
    by_cases e : c = n
    · subst e
      rw [hq, hr, cn_congr c (fun k hk => h k (by omega) (by omega))]
      rfl
    · rw [cn_put hq hr n (by omega) (fun k hk => h k (by omega)), h n (by omega) (by omega)]
      omega
theorem ahd_cn (f : Nat → Int32) (a : Nat) : ∀ n, ahd f a n = cn (ahdB f a) n
  | 0 => rfl
  | n + 1 => by rw [ahd, cn, ahd_cn f a n]
theorem cntP_cn (f : Nat → Int32) : ∀ n, cntP f n = cn (fun k => decide (0 < f k)) n
  | 0 => rfl
  | n + 1 => by
    rw [cntP, cn, cntP_cn f n]
    by_cases h : 0 < f n
    · simp [h]
    · simp [h]
theorem cntP_tail {f : Nat → Int32} {nn : Nat} : ∀ m, nn ≤ m → (∀ j, nn ≤ j → j < m → ¬ 0 < f j) → cntP f m = cntP f nn
  | 0, h, _ => by rw [show nn = 0 by omega]
  | m + 1, h, hz => by
    by_cases e : nn = m + 1
    · rw [e]
    · rw [cntP, if_neg (hz m (by omega) (by omega)), cntP_tail m (by omega) (fun j h1 h2 => hz j h1 (by omega))]
      rfl
theorem up_at (f : Nat → Int32) (i : Nat) (v : Int32) : upd f i v i = v := by simp [upd]
theorem up_ne (f : Nat → Int32) {i j : Nat} (v : Int32) (h : j ≠ i) : upd f i v j = f j := by simp [upd, h]
theorem cntP_up {f : Nat → Int32} {a n : Nat} {v : Int32} (ha : a < n) (h0 : ¬ 0 < f a) (hv : 0 < v) : cntP (upd f a v) n = cntP f n + 1 := by
  rw [cntP_cn, cntP_cn]
  exact cn_put (c := a) (by simp [h0]) (by simp [up_at, hv]) n ha (fun k _ hk => by rw [up_ne f v hk])
theorem cntP_st {f : Nat → Int32} {a n : Nat} {v : Int32} (h0 : 0 < f a) (hv : 0 < v) : cntP (upd f a v) n = cntP f n := by
  rw [cntP_cn, cntP_cn]
  refine cn_congr n (fun k _ => ?_)
  by_cases e : k = a
  · subst e; simp [up_at, hv, h0]
  · rw [up_ne f v e]
theorem i_add {x y : Int32} (h : -2147483648 ≤ x.toInt + y.toInt) (h2 : x.toInt + y.toInt < 2147483648) : (x + y).toInt = x.toInt + y.toInt := by
  rw [Int32.toInt_add]; exact Int.bmod_eq_of_le (by omega) (by omega)
theorem i_sub {x y : Int32} (h : -2147483648 ≤ x.toInt - y.toInt) (h2 : x.toInt - y.toInt < 2147483648) : (x - y).toInt = x.toInt - y.toInt := by
  rw [Int32.toInt_sub]; exact Int.bmod_eq_of_le (by omega) (by omega)
theorem i_0 : (0 : Int32).toInt = 0 := rfl
theorem i_1 : (1 : Int32).toInt = 1 := rfl
theorem m0_mx (v : Int32) : m0 v = mx0 v := by
  simp only [m0, mx0, Int32.le_iff_toInt_le, Int32.lt_iff_toInt_lt, i_0]
  by_cases h : v.toInt ≤ 0
  · rw [if_pos h, if_neg (by omega)]
  · rw [if_neg h, if_pos (by omega)]
theorem mx0_b (v : Int32) : 0 ≤ (mx0 v).toInt ∧ ((mx0 v).toInt = 0 ∨ (mx0 v).toInt = v.toInt) := by
  simp only [mx0, Int32.lt_iff_toInt_lt, i_0]
  split
  · omega
  · simp [i_0]
def CR (i nn : Nat) (B : Int) (C : Nat → Int32) (tk lo : Int32) (ct lq : Nat → Int32) : Prop := (∀ a, a < 64 → C a = ct (64 * i + a)) ∧ (∀ a, a < 64 → 0 ≤ (C a).toInt ∧ (C a).toInt ≤ B) ∧ (∀ a, nn ≤ a → a < 64 → C a = 0) ∧ (tk = nI (cntP C 64)) ∧ (lo = lq i)
theorem CR.eq {i nn : Nat} {B : Int} {C : Nat → Int32} {tk lo : Int32} {ct lq : Nat → Int32} (h : CR i nn B C tk lo ct lq) : ∀ a, a < 64 → C a = ct (64 * i + a) := h.1
theorem CR.bd {i nn : Nat} {B : Int} {C : Nat → Int32} {tk lo : Int32} {ct lq : Nat → Int32} (h : CR i nn B C tk lo ct lq) : ∀ a, a < 64 → 0 ≤ (C a).toInt ∧ (C a).toInt ≤ B := h.2.1
theorem CR.zr {i nn : Nat} {B : Int} {C : Nat → Int32} {tk lo : Int32} {ct lq : Nat → Int32} (h : CR i nn B C tk lo ct lq) : ∀ a, nn ≤ a → a < 64 → C a = 0 := h.2.2.1
theorem CR.tk {i nn : Nat} {B : Int} {C : Nat → Int32} {tk lo : Int32} {ct lq : Nat → Int32} (h : CR i nn B C tk lo ct lq) : tk = nI (cntP C 64) := h.2.2.2.1
theorem CR.lo {i nn : Nat} {B : Int} {C : Nat → Int32} {tk lo : Int32} {ct lq : Nat → Int32} (h : CR i nn B C tk lo ct lq) : lo = lq i := h.2.2.2.2
theorem CR.win {i nn : Nat} {B : Int} {C : Nat → Int32} {tk lo : Int32} {ct lq : Nat → Int32} (h : CR i nn B C tk lo ct lq) : cntP (fun a => ct (64 * i + a)) 64 = cntP C 64 := cntP_congr 64 (fun j hj => (h.eq j hj).symm)
theorem CR.count {i nn kk a : Nat} {B : Int} {C : Nat → Int32} {tk lo : Int32} {ct lq : Nat → Int32} (h : CR i nn B C tk lo ct lq) (hnn : nn ≤ 64) (ha : a < nn) (hB : B < 2147483647) : CR i nn (B + 1) (kC C nn kk tk a) (kT C nn kk tk a) (kL C kk tk lo a) (cntC ct (nI kk) i a) (cntL lq ct (nI kk) i a) := by
  have ha6 : a < 64 := by omega
  have hw := h.win
  have heq := h.eq a ha6
  have hbd := h.bd a ha6
  have htk := h.tk
  have hlo := h.lo
  have hT : cntT ct (nI kk) i a = (decide (0 < C a) || !decide (nI kk ≤ tk)) := by
    simp only [cntT, hw, ← heq, ← htk]
  have p1 : (0 : Int32) < 1 := by decide
  simp only [kC, kT, kL, cntC, cntL, hT]
  by_cases h0 : C a ≤ 0
  · have hn : ¬ 0 < C a := by rw [Int32.lt_iff_toInt_lt]; rw [Int32.le_iff_toInt_le] at h0; simp only [i_0] at *; omega
    have hz : C a = 0 := Int32.toInt_inj.mp (by rw [Int32.le_iff_toInt_le] at h0; simp only [i_0] at *; omega)
    simp only [h0, if_true, hn, decide_false, Bool.false_or]
    by_cases hf : nI kk ≤ tk
    · simp only [hf, if_true, decide_true, Bool.not_true, cond_false]
      have hlt : ∀ j, j < 64 → j < nn → lsK C 1 nn j = mx0 (C j - 1) := fun j _ h2 => by simp only [lsK, lsD]; rw [if_pos h2]
      have hge : ∀ j, nn ≤ j → lsK C 1 nn j = C j := fun j h2 => by simp only [lsK]; rw [if_neg (by omega)]
      refine ⟨fun j hj => ?_, fun j hj => ?_, fun j h1 h2 => ?_, ?_, ?_⟩
      · have e : lessF ct i 1 64 (64 * i + j) = m0 (C j - 1) := by
          simp only [lessF]; rw [if_pos (by omega), h.eq j hj]
        rw [e, m0_mx]
        by_cases hjn : j < nn
        · exact hlt j hj hjn
        · rw [hge j (by omega), h.zr j (by omega) hj]; decide
      · have hb := h.bd j hj
        by_cases hjn : j < nn
        · rw [hlt j hj hjn]
          have := mx0_b (C j - 1)
          have e : (C j - 1).toInt = (C j).toInt - 1 := by rw [i_sub] <;> simp only [i_1] <;> omega
          omega
        · rw [hge j (by omega)]; omega
      · rw [hge j h1]; exact h.zr j h1 h2
      · congr 1
        rw [cntP_tail (f := lsK C 1 nn) (nn := nn) 64 hnn (fun j h1 h2 => by rw [hge j h1, h.zr j h1 h2]; decide)]
        exact cntP_congr nn (fun j hj => by rw [hlt j (by omega) hj]; rfl)
      · rw [hlo]; simp [upd]
    · simp only [hf, if_false, decide_false, Bool.not_false, cond_true]
      refine ⟨fun j hj => ?_, fun j hj => ?_, fun j h1 h2 => ?_, ?_, hlo⟩
      · by_cases e : j = a
        · subst e; rw [up_at, up_at, ← heq, hz]; rfl
        · rw [up_ne C _ e, up_ne ct _ (by omega)]; exact h.eq j hj
      · have hb := h.bd j hj
        by_cases e : j = a
        · subst e; rw [up_at]; simp only [i_1]; omega
        · rw [up_ne C _ e]; omega
      · rw [up_ne C _ (by omega)]; exact h.zr j h1 h2
      · rw [cntP_up ha6 hn p1, htk, nI_1]
  · have hp : 0 < C a := by rw [Int32.lt_iff_toInt_lt]; rw [Int32.le_iff_toInt_le] at h0; simp only [i_0] at *; omega
    simp only [h0, if_false, hp, decide_true, Bool.true_or, cond_true]
    have e1 : (C a + 1).toInt = (C a).toInt + 1 := by rw [i_add] <;> simp only [i_1] <;> omega
    refine ⟨fun j hj => ?_, fun j hj => ?_, fun j h1 h2 => ?_, ?_, hlo⟩
    · by_cases e : j = a
      · subst e; rw [up_at, up_at, ← heq]
      · rw [up_ne C _ e, up_ne ct _ (by omega)]; exact h.eq j hj
    · have hb := h.bd j hj
      by_cases e : j = a
      · subst e; rw [up_at, e1]; omega
      · rw [up_ne C _ e]; omega
    · rw [up_ne C _ (by omega)]; exact h.zr j h1 h2
    · rw [cntP_st hp (by rw [Int32.lt_iff_toInt_lt, e1]; simp only [i_0]; omega)]; exact htk
