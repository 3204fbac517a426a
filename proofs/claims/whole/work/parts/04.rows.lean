/-! locals: a list of what is known of each place -/
def gAs : Nat → List (Option Value) → List (Nat × Value)
  | _, [] => []
  | i, none :: r => gAs (i + 1) r
  | i, some v :: r => (i, v) :: gAs (i + 1) r
theorem gAs_mem : ∀ (lv : List (Option Value)) (i j : Nat) (v : Value), (j, v) ∈ gAs i lv ↔ i ≤ j ∧ lv[j - i]? = some (some v)
  | [], i, j, v => by simp [gAs]
  | none :: r, i, j, v => by
    simp only [gAs]
    rw [gAs_mem r (i + 1) j v]
    constructor
    · rintro ⟨h1, h2⟩
      refine ⟨by omega, ?_⟩
      rw [show j - i = (j - (i + 1)) + 1 by omega, List.getElem?_cons_succ]
      exact h2
    · rintro ⟨h1, h2⟩
      by_cases h : j = i
      · subst h; simp at h2
      · refine ⟨by omega, ?_⟩
        rw [show j - i = (j - (i + 1)) + 1 by omega, List.getElem?_cons_succ] at h2
        exact h2
  | some w :: r, i, j, v => by
    simp only [gAs, List.mem_cons, Prod.mk.injEq]
    rw [gAs_mem r (i + 1) j v]
    constructor
    · rintro (⟨rfl, rfl⟩ | ⟨h1, h2⟩)
      · exact ⟨Nat.le_refl _, by simp⟩
      · refine ⟨by omega, ?_⟩
        rw [show j - i = (j - (i + 1)) + 1 by omega, List.getElem?_cons_succ]
        exact h2
    · rintro ⟨h1, h2⟩
      by_cases h : j = i
      · subst h; left; simp at h2; exact ⟨rfl, h2.symm⟩
      · right
        refine ⟨by omega, ?_⟩
        rw [show j - i = (j - (i + 1)) + 1 by omega, List.getElem?_cons_succ] at h2
        exact h2
def gL (ls : Array Slot) (nL : Nat) (lv : List (Option Value)) : Prop := lv_has ls nL (gAs 0 lv)
theorem gL_at {ls : Array Slot} {nL : Nat} {lv : List (Option Value)} (h : gL ls nL lv) {k : Nat} {v : Value} (hk : lv[k]? = some (some v)) : ls[k]? = some (.val v) := h.2.2 (k, v) ((gAs_mem lv 0 k v).mpr ⟨Nat.zero_le _, hk⟩)
def gKp : Option Value → Option Value
  | some v => if v.category = 2 then none else some v
  | none => none
/-- a value of one slot is stored -/
def gS1 : List (Option Value) → Nat → Value → List (Option Value)
  | [], _, _ => []
  | _ :: r, 0, v => some v :: r
  | o :: r, 1, v => gKp o :: gS1 r 0 v
  | o :: r, n + 2, v => o :: gS1 r (n + 1) v
def gDr : List (Option Value) → List (Option Value)
  | [] => []
  | _ :: r => none :: r
/-- a value of two slots is stored -/
def gS2 : List (Option Value) → Nat → Value → List (Option Value)
  | [], _, _ => []
  | _ :: r, 0, v => some v :: gDr r
  | o :: r, 1, v => gKp o :: gS2 r 0 v
  | o :: r, n + 2, v => o :: gS2 r (n + 1) v
theorem gKp_some {o : Option Value} {w : Value} (h : gKp o = some w) : o = some w ∧ ¬ w.category = 2 := by
  cases o with
  | none => simp [gKp] at h
  | some v =>
    by_cases hv : v.category = 2
    · simp [gKp, hv] at h
    · simp [gKp, hv] at h
      subst h
      exact ⟨rfl, hv⟩
theorem gS1_at : ∀ (lv : List (Option Value)) (i j : Nat) (v w : Value), (gS1 lv i v)[j]? = some (some w) → (j = i ∧ w = v) ∨ (j ≠ i ∧ lv[j]? = some (some w) ∧ ¬ (j + 1 = i ∧ w.category = 2))
  | [], i, j, v, w, h => by simp [gS1] at h
  | _ :: r, 0, j, v, w, h => by
    cases j with
    | zero => simp [gS1] at h; exact Or.inl ⟨rfl, h.symm⟩
    | succ j => simp only [gS1, List.getElem?_cons_succ] at h; exact Or.inr ⟨by omega, by simpa using h, by omega⟩
  | o :: r, 1, j, v, w, h => by
    cases j with
    | zero =>
      simp only [gS1, List.getElem?_cons_zero, Option.some.injEq] at h
      obtain ⟨h1, h2⟩ := gKp_some h
      exact Or.inr ⟨by omega, by simp [h1], fun q => h2 q.2⟩
    | succ j =>
      simp only [gS1, List.getElem?_cons_succ] at h
      rcases gS1_at r 0 j v w h with ⟨h1, h2⟩ | ⟨h1, h2, h3⟩
      · exact Or.inl ⟨by omega, h2⟩
      · exact Or.inr ⟨by omega, by simpa using h2, by omega⟩
  | o :: r, n + 2, j, v, w, h => by
    cases j with
    | zero => simp only [gS1, List.getElem?_cons_zero] at h; exact Or.inr ⟨by omega, by simpa using h, by omega⟩
    | succ j =>
      simp only [gS1, List.getElem?_cons_succ] at h
      rcases gS1_at r (n + 1) j v w h with ⟨h1, h2⟩ | ⟨h1, h2, h3⟩
      · exact Or.inl ⟨by omega, h2⟩
      · exact Or.inr ⟨by omega, by simpa using h2, fun q => h3 ⟨by omega, q.2⟩⟩
theorem gDr_at (r : List (Option Value)) (j : Nat) (w : Value) (h : (gDr r)[j]? = some (some w)) : j ≠ 0 ∧ r[j]? = some (some w) := by
  cases r with
  | nil => simp [gDr] at h
  | cons a r =>
    cases j with
    | zero => simp [gDr] at h
    | succ j => exact ⟨by omega, by simpa [gDr] using h⟩
theorem gS2_at : ∀ (lv : List (Option Value)) (i j : Nat) (v w : Value), (gS2 lv i v)[j]? = some (some w) → (j = i ∧ w = v) ∨ (j ≠ i ∧ j ≠ i + 1 ∧ lv[j]? = some (some w) ∧ ¬ (j + 1 = i ∧ w.category = 2))
  | [], i, j, v, w, h => by simp [gS2] at h
  | _ :: r, 0, j, v, w, h => by
    cases j with
    | zero => simp [gS2] at h; exact Or.inl ⟨rfl, h.symm⟩
    | succ j =>
      simp only [gS2, List.getElem?_cons_succ] at h
      obtain ⟨h1, h2⟩ := gDr_at r j w h
      exact Or.inr ⟨by omega, by omega, by simpa using h2, by omega⟩
  | o :: r, 1, j, v, w, h => by
    cases j with
    | zero =>
      simp only [gS2, List.getElem?_cons_zero, Option.some.injEq] at h
      obtain ⟨h1, h2⟩ := gKp_some h
      exact Or.inr ⟨by omega, by omega, by simp [h1], fun q => h2 q.2⟩
    | succ j =>
      simp only [gS2, List.getElem?_cons_succ] at h
      rcases gS2_at r 0 j v w h with ⟨h1, h2⟩ | ⟨h1, h0, h2, h3⟩
      · exact Or.inl ⟨by omega, h2⟩
      · exact Or.inr ⟨by omega, by omega, by simpa using h2, by omega⟩
  | o :: r, n + 2, j, v, w, h => by
    cases j with
    | zero => simp only [gS2, List.getElem?_cons_zero] at h; exact Or.inr ⟨by omega, by omega, by simpa using h, by omega⟩
    | succ j =>
      simp only [gS2, List.getElem?_cons_succ] at h
      rcases gS2_at r (n + 1) j v w h with ⟨h1, h2⟩ | ⟨h1, h0, h2, h3⟩
      · exact Or.inl ⟨by omega, h2⟩
      · exact Or.inr ⟨by omega, by omega, by simpa using h2, fun q => h3 ⟨by omega, q.2⟩⟩
theorem gL_less {ls : Array Slot} {nL : Nat} {l : List (Nat × Value)} {lv : List (Option Value)} (h : lv_has ls nL l) (hm : ∀ (j : Nat) (w : Value), lv[j]? = some (some w) → (j, w) ∈ l) : gL ls nL lv :=
  ⟨h.1, h.2.1, fun q hq => h.2.2 q (hm q.1 q.2 ((gAs_mem lv 0 q.1 q.2).mp hq).2)⟩
theorem gL_sub {ls : Array Slot} {nL : Nat} {lv lv' : List (Option Value)} (h : gL ls nL lv) (hm : ∀ (j : Nat) (w : Value), lv'[j]? = some (some w) → lv[j]? = some (some w)) : gL ls nL lv' :=
  gL_less h (fun j w q => (gAs_mem lv 0 j w).mpr ⟨Nat.zero_le _, hm j w q⟩)
theorem gL_s1 {ls : Array Slot} {nL i : Nat} {lv lv' : List (Option Value)} {v : Value} (hl : gS1 lv i v = lv') (h : lv_has ls nL ((i, v) :: (gAs 0 lv).filter (fun q => !(q.1 == i) && !(q.1 + 1 == i && q.2.category == 2)))) : gL ls nL lv' := by
  subst hl
  refine gL_less h fun j w hj => ?_
  rcases gS1_at lv i j v w hj with ⟨rfl, rfl⟩ | ⟨h1, h2, h3⟩
  · exact List.mem_cons_self
  · refine List.mem_cons_of_mem _ (List.mem_filter.mpr ⟨(gAs_mem lv 0 j w).mpr ⟨Nat.zero_le _, h2⟩, ?_⟩)
    by_cases h4 : j + 1 = i
    · have h5 : ¬ w.category = 2 := fun q => h3 ⟨h4, q⟩
      simp [h1, h5]
    · simp [h1, h4]
theorem gL_s2 {ls : Array Slot} {nL i : Nat} {lv lv' : List (Option Value)} {v : Value} (hl : gS2 lv i v = lv') (h : lv_has ls nL ((i, v) :: (gAs 0 lv).filter (fun q => !(q.1 == i) && (!(q.1 == i + 1) && !(q.1 + 1 == i && q.2.category == 2))))) : gL ls nL lv' := by
  subst hl
  refine gL_less h fun j w hj => ?_
  rcases gS2_at lv i j v w hj with ⟨rfl, rfl⟩ | ⟨h1, h0, h2, h3⟩
  · exact List.mem_cons_self
  · refine List.mem_cons_of_mem _ (List.mem_filter.mpr ⟨(gAs_mem lv 0 j w).mpr ⟨Nat.zero_le _, h2⟩, ?_⟩)
    by_cases h4 : j + 1 = i
    · have h5 : ¬ w.category = 2 := fun q => h3 ⟨h4, q⟩
      simp [h1, h0, h5]
    · simp [h1, h0, h4]
/-- fewer known places: a Boolean check of shape, the values by rfl -/
def gLe : List (Option Value) → List (Option Value) → Prop
  | [], _ => True
  | none :: r, _ :: r' => gLe r r'
  | none :: r, [] => gLe r []
  | some v :: r, some w :: r' => v = w ∧ gLe r r'
  | some _ :: _, none :: _ => False
  | some _ :: _, [] => False
theorem gLe_sub : ∀ (lv' lv : List (Option Value)), gLe lv' lv → ∀ (j : Nat) (w : Value), lv'[j]? = some (some w) → lv[j]? = some (some w)
  | [], _, _, j, w, h => by simp at h
  | none :: r, [], hl, j, w, h => by
    cases j with
    | zero => simp at h
    | succ j => simp only [List.getElem?_cons_succ] at h; have := gLe_sub r [] hl j w h; simp at this
  | none :: r, a :: r', hl, j, w, h => by
    cases j with
    | zero => simp at h
    | succ j => simp only [List.getElem?_cons_succ] at h ⊢; exact gLe_sub r r' hl j w h
  | some v :: r, some v' :: r', hl, j, w, h => by
    cases j with
    | zero => obtain ⟨rfl, -⟩ := hl; simpa using h
    | succ j => simp only [List.getElem?_cons_succ] at h ⊢; exact gLe_sub r r' hl.2 j w h
  | some _ :: _, none :: _, hl, _, _, _ => hl.elim
  | some _ :: _, [], hl, _, _, _ => hl.elim
