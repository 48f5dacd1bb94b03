/-! the machine layer: a judgement that hides the machine; locals as a list, the cells of a footprint as a list, their addresses ad 0, ad 1, .. -/
def TB : List Cond := lw_tbl.filter goodWord
theorem TB_good : ∀ w ∈ TB, (w.onTables && w.keeps) = true ∨ ∃ ty, w = .arrayClass ty := fun w h => good_of_word (List.mem_filter.mp h).2
theorem TB_at {w : Cond} (k : Nat) (h : lw_tbl[k]? = some w) (g : goodWord w = true) : w ∈ TB := List.mem_filter.mpr ⟨List.mem_of_getElem? h, g⟩
/-- a list's place, by structure -/
def gt {α : Type} : List α → Nat → Option α
  | [], _ => none
  | a :: _, 0 => some a
  | _ :: r, n + 1 => gt r n
theorem gt_eq {α : Type} : ∀ (l : List α) (k : Nat), gt l k = l[k]?
  | [], k => by simp [gt]
  | a :: r, 0 => by simp [gt]
  | a :: r, n + 1 => by simp [gt, gt_eq r n]
def isL : Value → Bool
  | .long _ => true
  | .double _ => true
  | _ => false
theorem isL_cat (v : Value) : isL v = true ↔ v.category = 2 := by cases v <;> simp [isL, Value.category]
def lkill : List (Option Value) → List (Option Value)
  | [] => []
  | _ :: r => none :: r
def lkeep : Option Value → Option Value
  | some v => bif isL v then none else some v
  | none => none
/-- storing into the locals -/
def lset : List (Option Value) → Nat → Value → List (Option Value)
  | [], _, _ => []
  | _ :: r, 0, v => some v :: (bif isL v then lkill r else r)
  | o :: r, 1, v => lkeep o :: lset r 0 v
  | o :: r, n + 2, v => o :: lset r (n + 1) v
theorem lkill_len (r : List (Option Value)) : (lkill r).length = r.length := by cases r <;> rfl
theorem lset_len : ∀ (lv : List (Option Value)) (i : Nat) (v : Value), (lset lv i v).length = lv.length
  | [], _, _ => rfl
  | _ :: r, 0, v => by
    simp only [lset, List.length_cons]
    cases isL v <;> simp [lkill_len]
  | o :: r, 1, v => by simp only [lset, List.length_cons, lset_len r 0 v]
  | o :: r, n + 2, v => by simp only [lset, List.length_cons, lset_len r (n + 1) v]
theorem lset_get : ∀ (lv : List (Option Value)) (i : Nat) (v : Value) (j : Nat) (w : Value), (lset lv i v)[j]? = some (some w) → (j = i ∧ w = v) ∨ (j ≠ i ∧ lv[j]? = some (some w) ∧ ¬ (j + 1 = i ∧ w.category = 2) ∧ (v.category = 2 → j ≠ i + 1))
  | [], i, v, j, w, h => by simp [lset] at h
  | o :: r, 0, v, 0, w, h => by simp [lset] at h; exact Or.inl ⟨rfl, h.symm⟩
  | o :: r, 0, v, j + 1, w, h => by
    simp only [lset, List.getElem?_cons_succ] at h
    refine Or.inr ⟨by omega, ?_, by omega, ?_⟩
    · cases hL : isL v with
      | true =>
        rw [hL] at h
        cases r with
        | nil => simp [lkill] at h
        | cons a r =>
          cases j with
          | zero => simp [lkill] at h
          | succ j => simpa [lkill] using h
      | false => rw [hL] at h; simpa using h
    · intro hv hj
      have hL := (isL_cat v).mpr hv
      rw [hL] at h
      have : j = 0 := by omega
      subst this
      cases r with
      | nil => simp [lkill] at h
      | cons a r => simp [lkill] at h
  | o :: r, 1, v, 0, w, h => by
    simp only [lset, List.getElem?_cons_zero] at h
    cases o with
    | none => simp [lkeep] at h
    | some z =>
      cases hL : isL z with
      | true => simp [lkeep, hL] at h
      | false =>
        simp [lkeep, hL] at h
        subst h
        refine Or.inr ⟨by omega, by simp, ?_, by omega⟩
        intro hh
        rw [← isL_cat, hL] at hh
        simp at hh
  | o :: r, 1, v, j + 1, w, h => by
    simp only [lset, List.getElem?_cons_succ] at h
    rcases lset_get r 0 v j w h with ⟨h1, h2⟩ | ⟨h1, h2, h3, h4⟩
    · exact Or.inl ⟨by omega, h2⟩
    · exact Or.inr ⟨by omega, by simpa using h2, by omega, fun hv => by have := h4 hv; omega⟩
  | o :: r, n + 2, v, 0, w, h => by
    simp only [lset, List.getElem?_cons_zero] at h
    exact Or.inr ⟨by omega, by simpa using h, by omega, by omega⟩
  | o :: r, n + 2, v, j + 1, w, h => by
    simp only [lset, List.getElem?_cons_succ] at h
    rcases lset_get r (n + 1) v j w h with ⟨h1, h2⟩ | ⟨h1, h2, h3, h4⟩
    · exact Or.inl ⟨by omega, h2⟩
    · exact Or.inr ⟨by omega, by simpa using h2, fun q => h3 ⟨by omega, q.2⟩, fun hv => by have := h4 hv; omega⟩
/-- the locals held -/
def LH (ls : Array Slot) (lv : List (Option Value)) : Prop := ls.size = lv.length ∧ lv_wf ls ∧ ∀ (i : Nat) (v : Value), lv[i]? = some (some v) → ls[i]? = some (Slot.val v)
def las (lv : List (Option Value)) : List (Nat × Value) := (List.range lv.length).filterMap (fun i => match lv[i]? with
  | some (some v) => some (i, v)
  | _ => none)
theorem las_mem {lv : List (Option Value)} {q : Nat × Value} : q ∈ las lv ↔ lv[q.1]? = some (some q.2) := by
  unfold las
  rw [List.mem_filterMap]
  constructor
  · rintro ⟨i, -, h⟩
    split at h
    · next v hv => cases h; exact hv
    · cases h
  · intro h
    refine ⟨q.1, List.mem_range.mpr (List.getElem?_eq_some_iff.mp h).1, ?_⟩
    rw [h]
theorem LH.has {ls : Array Slot} {lv : List (Option Value)} (h : LH ls lv) : lv_has ls lv.length (las lv) := ⟨h.1, h.2.1, fun q hq => h.2.2 q.1 q.2 (las_mem.mp hq)⟩
theorem LH.at {ls : Array Slot} {lv : List (Option Value)} (h : LH ls lv) {i : Nat} {v : Value} (hv : gt lv i = some (some v)) : ls[i]? = some (.val v) := h.2.2 i v (by rw [← gt_eq]; exact hv)
theorem LH.set1 {ls : Array Slot} {lv : List (Option Value)} {i : Nat} {v : Value} (h : lv_has ls lv.length ((i, v) :: (las lv).filter (fun q => !(q.1 == i) && !(q.1 + 1 == i && q.2.category == 2)))) : LH ls (lset lv i v) := by
  refine ⟨by rw [lset_len]; exact h.1, h.2.1, fun j w hw => ?_⟩
  rcases lset_get lv i v j w hw with ⟨h1, h2⟩ | ⟨h1, h2, h3, -⟩
  · subst h1; subst h2; exact h.2.2 (j, w) List.mem_cons_self
  · refine h.2.2 (j, w) (List.mem_cons_of_mem _ (List.mem_filter.mpr ⟨las_mem.mpr h2, ?_⟩))
    simp only [Bool.and_eq_true, Bool.not_eq_true', beq_eq_false_iff_ne, ne_eq, Bool.and_eq_false_iff]
    refine ⟨h1, ?_⟩
    by_cases hj : j + 1 = i
    · exact Or.inr (by simpa using fun q => h3 ⟨hj, q⟩)
    · exact Or.inl (by simpa using hj)
theorem LH.set2 {ls : Array Slot} {lv : List (Option Value)} {i : Nat} {v : Value} (hc : v.category = 2) (h : lv_has ls lv.length ((i, v) :: (las lv).filter (fun q => !(q.1 == i) && (!(q.1 == i + 1) && !(q.1 + 1 == i && q.2.category == 2))))) : LH ls (lset lv i v) := by
  refine ⟨by rw [lset_len]; exact h.1, h.2.1, fun j w hw => ?_⟩
  rcases lset_get lv i v j w hw with ⟨h1, h2⟩ | ⟨h1, h2, h3, h4⟩
  · subst h1; subst h2; exact h.2.2 (j, w) List.mem_cons_self
  · refine h.2.2 (j, w) (List.mem_cons_of_mem _ (List.mem_filter.mpr ⟨las_mem.mpr h2, ?_⟩))
    simp only [Bool.and_eq_true, Bool.not_eq_true', beq_eq_false_iff_ne, ne_eq, Bool.and_eq_false_iff]
    refine ⟨h1, h4 hc, ?_⟩
    by_cases hj : j + 1 = i
    · exact Or.inr (by simpa using fun q => h3 ⟨hj, q⟩)
    · exact Or.inl (by simpa using hj)
/-- the locals at a method's entry -/
def lent : List Value → List (Option Value)
  | [] => []
  | v :: r => some v :: (bif isL v then none :: lent r else lent r)
def lpad : Nat → List (Option Value)
  | 0 => []
  | n + 1 => none :: lpad n
theorem lpad_len : ∀ n, (lpad n).length = n
  | 0 => rfl
  | n + 1 => by simp [lpad, lpad_len n]
theorem lpad_get : ∀ (n i : Nat) (v : Value), (lpad n)[i]? ≠ some (some v)
  | 0, i, v => by simp [lpad]
  | n + 1, 0, v => by simp [lpad]
  | n + 1, i + 1, v => by simp [lpad]; exact lpad_get n i v
theorem lent_len : ∀ (vs : List Value), (lent vs).length = (lg_sl vs).length
  | [] => rfl
  | v :: r => by
    have ih := lent_len r
    have h := isL_cat v
    cases hL : isL v with
    | true =>
      have hc := h.mp hL
      simp [lent, lg_sl, hL, hc] at ih ⊢
      simpa [lg_sl] using ih
    | false =>
      have hc : ¬ v.category = 2 := fun q => by rw [h.mpr q] at hL; cases hL
      simp [lent, lg_sl, hL, hc] at ih ⊢
      simpa [lg_sl] using ih
theorem lent_get : ∀ (vs : List Value) (o i : Nat) (v : Value), (lent vs)[i]? = some (some v) → (o + i, v) ∈ lv_args o vs
  | [], o, i, v, h => by simp [lent] at h
  | w :: r, o, 0, v, h => by
    simp [lent] at h
    subst h
    simp [lv_args]
  | w :: r, o, i + 1, v, h => by
    have hh := isL_cat w
    simp only [lent, List.getElem?_cons_succ] at h
    cases hL : isL w with
    | true =>
      have hc := hh.mp hL
      rw [hL] at h
      cases i with
      | zero => simp at h
      | succ i =>
        have := lent_get r (o + 2) i v (by simpa using h)
        simp only [lv_args, hc, if_true]
        refine List.mem_cons_of_mem _ ?_
        rw [show o + (i + 1 + 1) = o + 2 + i by omega]
        exact this
    | false =>
      have hc : ¬ w.category = 2 := fun q => by rw [hh.mpr q] at hL; cases hL
      rw [hL] at h
      have := lent_get r (o + 1) i v (by simpa using h)
      simp only [lv_args, hc, if_false]
      refine List.mem_cons_of_mem _ ?_
      rw [show o + (i + 1) = o + 1 + i by omega]
      exact this
theorem LH.entry (vs : List Value) {n : Nat} (h : (lg_sl vs).length ≤ n) : LH ((lg_sl vs ++ List.replicate (n - (lg_sl vs).length) Slot.unset).toArray) (lent vs ++ lpad (n - (lg_sl vs).length)) := by
  have h0 := lv_entry vs h
  refine ⟨by rw [h0.1, List.length_append, lent_len, lpad_len]; omega, h0.2.1, fun i v hv => ?_⟩
  by_cases hi : i < (lent vs).length
  · rw [List.getElem?_append_left hi] at hv
    have := lent_get vs 0 i v hv
    rw [Nat.zero_add] at this
    exact h0.2.2 (i, v) this
  · rw [List.getElem?_append_right (by omega)] at hv
    exact absurd hv (lpad_get _ _ _)
