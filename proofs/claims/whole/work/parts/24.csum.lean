/-! SUMS: the class's, by what stands in 'insured' -/
section CS
variable {T : gT} {N : gN} {u : gM}
theorem q_iac_l {a : Nat} {g : Nat → Nat} (hV : VT T) (hT : RT 3 T u) (ha : a < T 0 2) (hg : ∀ k, k < T 5 a → u.1 137 (a * 4 + k) = nI (g k) ∧ g k ≤ 100000000) : ∀ (f k : Nat), k ≤ T 5 a → T 5 a - k < f → X1_insuredOfAccount_l4 u f (nI a) (nI (sumN g k)) (nI k) = some (nI (sumN g (T 5 a))) := by
  have hna := hV.na
  have hno := hV.no a ha
  have h3 := hT.no a ha
  simp only [Nat.reduceAdd] at h3
  intro f
  induction f with
  | zero => intro k h1 h2; omega
  | succ f ih =>
    intro k h1 h2
    unfold X1_insuredOfAccount_l4 X1_insuredOfAccount_b4
    by_cases h4 : k = T 5 a
    · rw [aC11 (by omega), h3, Option.bind_some, h4, if_pos (Int32.le_refl _)]
    · obtain ⟨h5, h6⟩ := hg k (by omega)
      have e := ih (k + 1) (by omega) (by omega)
      rw [sumN_s] at e
      simp (disch := omega) only [aC11, h3, aC137, h5, nI_lit, lN_lit, nI_add, pk_mul, lN_add, lN_mul, Option.bind_some, nI_leI, nI_ltI, nI_eq, lN_leI, lN_ltI, lN_eqI, nI_m1, m1_nI, i_modN, lN_modN, nI_64, lN_32, if_pos, if_neg, ↓reduceIte, if_true, if_false]
      exact e
theorem q_iac {a : Nat} {g : Nat → Nat} (hV : VT T) (hT : RT 3 T u) (ha : a < T 0 2) (hg : ∀ k, k < T 5 a → u.1 137 (a * 4 + k) = nI (g k) ∧ g k ≤ 100000000) : X1_insuredOfAccount u (nI a) = some (nI (sumN g (T 5 a))) := by
  have hno := hV.no a ha
  unfold X1_insuredOfAccount
  rw [nI_lit]
  exact q_iac_l hV hT ha hg fz 0 (Nat.zero_le _) (fz_lt (by omega))
theorem q_iall_l {g : Nat → Nat → Nat} (hV : VT T) (hT : RT 3 T u) (hg : ∀ a k, a < T 0 2 → k < T 5 a → u.1 137 (a * 4 + k) = nI (g a k) ∧ g a k ≤ 100000000) : ∀ (f a : Nat), a ≤ T 0 2 → T 0 2 - a < f → X1_insuredOfAll_l4 u f (lN (sumN (fun a => sumN (g a) (T 5 a)) a)) (nI a) = some (lN (sumN (fun a => sumN (g a) (T 5 a)) (T 0 2))) := by
  have hna := hV.na
  intro f
  induction f with
  | zero => intro a h1 h2; omega
  | succ f ih =>
    intro a h1 h2
    unfold X1_insuredOfAll_l4 X1_insuredOfAll_b4
    by_cases h4 : a = T 0 2
    · rw [hT.na, h4, if_pos (Int32.le_refl _)]
    · have ha : a < T 0 2 := by omega
      have e := ih (a + 1) (by omega) (by omega)
      rw [sumN_s] at e
      have h5 := q_iac hV hT ha (hg a · ha ·)
      have h6 := sumN_max (p := g a) (B := 100000000) (n := T 5 a) (fun k hk => (hg a k ha hk).2)
      have h7 := (hV.no a ha).2
      have h8 : T 5 a * 100000000 ≤ 4 * 100000000 := Nat.mul_le_mul_right _ h7
      simp (disch := omega) only [hT.na, h5, nI_lit, lN_lit, nI_add, pk_mul, lN_add, lN_mul, Option.bind_some, nI_leI, nI_ltI, nI_eq, lN_leI, lN_ltI, lN_eqI, nI_m1, m1_nI, i_modN, lN_modN, nI_64, lN_32, if_pos, if_neg, ↓reduceIte, if_true, if_false]
      exact e
theorem q_iall {g : Nat → Nat → Nat} (hV : VT T) (hT : RT 3 T u) (hg : ∀ a k, a < T 0 2 → k < T 5 a → u.1 137 (a * 4 + k) = nI (g a k) ∧ g a k ≤ 100000000) : X1_insuredOfAll u = some (lN (sumN (fun a => sumN (g a) (T 5 a)) (T 0 2))) := by
  have hna := hV.na
  unfold X1_insuredOfAll
  rw [nI_lit, lN_lit]
  exact q_iall_l hV hT hg fz 0 (Nat.zero_le _) (fz_lt (by omega))
theorem q_sharesOf_l {p : Nat} (hV : VT T) (hVN : VN T N) (hT : RT 3 T u) (hN : RN 18 T N u) (hp : p < T 0 0) : ∀ (f a : Nat), a ≤ T 0 2 → T 0 2 - a < f → X1_sharesOf_l5 u f (nI p) (lN (sumN (shaF T N p) a)) (nI a) = some (lN (shaS T N p)) := by
  have hna := hV.na
  intro f
  induction f with
  | zero => intro a h1 h2; omega
  | succ f ih =>
    intro a h1 h3
    unfold X1_sharesOf_l5 X1_sharesOf_b5 X1_sharesOf_b47
    by_cases h4 : a = T 0 2
    · rw [hT.na, h4, if_pos (Int32.le_refl _)]
      rfl
    · have ha : a < T 0 2 := by omega
      have e := ih (a + 1) (by omega) (by omega)
      rw [sumN_s] at e
      have h5 := q_ownerOf hV hT ha hp
      have h0 := hV.no a ha
      have hle := shaS_le (p := p) (n := a) hV hVN h1
      cases hk : owS T a p with
      | none =>
        have h6 : shaF T N p a = 0 := by unfold shaF; rw [hk]
        rw [h6] at e
        rw [hk] at h5
        simp (disch := omega) only [hT.na, h5, oI, nI_lit, lN_lit, nI_add, pk_mul, lN_add, lN_mul, Option.bind_some, nI_leI, nI_ltI, nI_eq, lN_leI, lN_ltI, lN_eqI, nI_m1, m1_nI, i_modN, lN_modN, nI_64, lN_32, if_pos, if_neg, ↓reduceIte, if_true, if_false]
        exact e
      | some k =>
        have hk1 := (owS_some hk).1
        have h6 : shaF T N p a = shS T N a k := by unfold shaF; rw [hk]
        have h7 := q_share hV hT hN hVN ha hk1
        have h8 := shS_le (k := k) hV hVN ha
        rw [h6] at e
        rw [hk] at h5
        simp (disch := omega) only [hT.na, h5, h7, oI, nI_lit, lN_lit, nI_add, pk_mul, lN_add, lN_mul, Option.bind_some, nI_leI, nI_ltI, nI_eq, lN_leI, lN_ltI, lN_eqI, nI_m1, m1_nI, i_modN, lN_modN, nI_64, lN_32, if_pos, if_neg, ↓reduceIte, if_true, if_false]
        exact e
theorem q_sharesOf {p : Nat} (hV : VT T) (hVN : VN T N) (hT : RT 3 T u) (hN : RN 18 T N u) (hp : p < T 0 0) : X1_sharesOf u (nI p) = some (lN (shaS T N p)) := by
  have hna := hV.na
  unfold X1_sharesOf
  rw [nI_lit, lN_lit]
  exact q_sharesOf_l hV hVN hT hN hp fz 0 (Nat.zero_le _) (fz_lt (by omega))
theorem q_insuredOf_l {p m : Nat} (hV : VT T) (hVN : VN T N) (hT : RT 3 T u) (hp : p < T 0 0) (hi : ∀ a k, a < T 0 2 → k < T 5 a → u.1 137 (a * 4 + k) = nI (insS T N m a k)) : ∀ (f a : Nat), a ≤ T 0 2 → T 0 2 - a < f → X1_insuredOf_l5 u f (nI p) (lN (sumN (insF T N p m) a)) (nI a) = some (lN (sumN (insF T N p m) (T 0 2))) := by
  have hna := hV.na
  intro f
  induction f with
  | zero => intro a h1 h2; omega
  | succ f ih =>
    intro a h1 h3
    unfold X1_insuredOf_l5 X1_insuredOf_b5 X1_insuredOf_b51
    by_cases h4 : a = T 0 2
    · rw [hT.na, h4, if_pos (Int32.le_refl _)]
    · have ha : a < T 0 2 := by omega
      have e := ih (a + 1) (by omega) (by omega)
      rw [sumN_s] at e
      have h5 := q_ownerOf hV hT ha hp
      have h0 := hV.no a ha
      cases hk : owS T a p with
      | none =>
        have h6 : insF T N p m a = 0 := by unfold insF; rw [hk]
        rw [h6] at e
        rw [hk] at h5
        simp (disch := omega) only [hT.na, h5, oI, nI_lit, lN_lit, nI_add, pk_mul, lN_add, lN_mul, Option.bind_some, nI_leI, nI_ltI, nI_eq, lN_leI, lN_ltI, lN_eqI, nI_m1, m1_nI, i_modN, lN_modN, nI_64, lN_32, if_pos, if_neg, ↓reduceIte, if_true, if_false]
        exact e
      | some k =>
        have hk1 := (owS_some hk).1
        have h6 : insF T N p m a = insS T N m a k := by unfold insF; rw [hk]
        have h7 := hi a k ha hk1
        have h8 := Nat.le_trans (insS_le (m := m) hV hVN ha hk1) (shS_le hV hVN ha)
        rw [h6] at e
        rw [hk] at h5
        simp (disch := omega) only [hT.na, h5, aC137, h7, oI, nI_lit, lN_lit, nI_add, pk_mul, lN_add, lN_mul, Option.bind_some, nI_leI, nI_ltI, nI_eq, lN_leI, lN_ltI, lN_eqI, nI_m1, m1_nI, i_modN, lN_modN, nI_64, lN_32, if_pos, if_neg, ↓reduceIte, if_true, if_false]
        exact e
theorem q_insuredOf {p m : Nat} (hV : VT T) (hVN : VN T N) (hT : RT 3 T u) (hp : p < T 0 0) (hi : ∀ a k, a < T 0 2 → k < T 5 a → u.1 137 (a * 4 + k) = nI (insS T N m a k)) : X1_insuredOf u (nI p) = some (lN (iofS T N none p m)) := by
  have hna := hV.na
  rw [← insF_sum hV hVN]
  unfold X1_insuredOf
  rw [nI_lit, lN_lit]
  exact q_insuredOf_l hV hVN hT hp hi fz 0 (Nat.zero_le _) (fz_lt (by omega))
theorem iofS_sha {p m : Nat} (hV : VT T) (hVN : VN T N) : iofS T N none p m ≤ shaS T N p := by
  rw [← insF_sum hV hVN]
  exact sumN_le (fun a ha => insF_le hV hVN ha)
/-- what is not INSURED of a PERSON in a MONTH -/
def opnS (T : gT) (N : gN) (p m : Nat) : Nat := shaS T N p - iofS T N none p m
theorem q_openOf {p m : Nat} (hV : VT T) (hVN : VN T N) (hT : RT 3 T u) (hN : RN 18 T N u) (hp : p < T 0 0) (hi : ∀ a k, a < T 0 2 → k < T 5 a → u.1 137 (a * 4 + k) = nI (insS T N m a k)) : X1_openOf u (nI p) = some (lN (opnS T N p m)) := by
  unfold X1_openOf opnS
  rw [q_sharesOf hV hVN hT hN hp, Option.bind_some, q_insuredOf hV hVN hT hp hi, Option.bind_some, lN_sub (iofS_sha hV hVN)]
theorem q_ctd_l {b m : Nat} (hV : VT T) (hVN : VN T N) (hT : RT 3 T u) (hN : RN 18 T N u) (hb : b < 2 ^ 31) (hm : m < 2 ^ 30) : ∀ (f a : Nat), a ≤ T 0 2 → T 0 2 - a < f → X1_accountsCountedAt_l5 u f (nI b) (nI m) (nI (sumN (fun a => if cntS T N a m = b then 1 else 0) a)) (nI a) = some (nI (sumN (fun a => if cntS T N a m = b then 1 else 0) (T 0 2))) := by
  have hna := hV.na
  intro f
  induction f with
  | zero => intro a h1 h2; omega
  | succ f ih =>
    intro a h1 h3
    unfold X1_accountsCountedAt_l5 X1_accountsCountedAt_b5 X1_accountsCountedAt_b31
    by_cases h4 : a = T 0 2
    · rw [hT.na, h4, if_pos (Int32.le_refl _)]
    · have ha : a < T 0 2 := by omega
      have e := ih (a + 1) (by omega) (by omega)
      rw [sumN_s] at e
      have h5 := q_countedAt hV hT hN hVN ha hm
      have h6 := cntS_lt (m := m) hV hVN ha
      by_cases h7 : cntS T N a m = b
      · rw [if_pos h7] at e
        simp (disch := omega) only [hT.na, h5, h7, nI_lit, lN_lit, nI_add, pk_mul, lN_add, lN_mul, Option.bind_some, nI_leI, nI_ltI, nI_eq, lN_leI, lN_ltI, lN_eqI, nI_m1, m1_nI, i_modN, lN_modN, nI_64, lN_32, if_pos, if_neg, ↓reduceIte, if_true, if_false]
        exact e
      · rw [if_neg h7] at e
        simp (disch := omega) only [hT.na, h5, h7, nI_lit, lN_lit, nI_add, pk_mul, lN_add, lN_mul, Option.bind_some, nI_leI, nI_ltI, nI_eq, lN_leI, lN_ltI, lN_eqI, nI_m1, m1_nI, i_modN, lN_modN, nI_64, lN_32, if_pos, if_neg, ↓reduceIte, if_true, if_false]
        exact e
theorem q_ctd {b m : Nat} (hV : VT T) (hVN : VN T N) (hT : RT 3 T u) (hN : RN 18 T N u) (hb : b < 2 ^ 31) (hm : m < 2 ^ 30) : X1_accountsCountedAt u (nI b) (nI m) = some (nI (sumN (fun a => if cntS T N a m = b then 1 else 0) (T 0 2))) := by
  have hna := hV.na
  unfold X1_accountsCountedAt
  rw [nI_lit]
  exact q_ctd_l hV hVN hT hN hb hm fz 0 (Nat.zero_le _) (fz_lt (by omega))
/-- the least MONTH in which an ACCOUNT below n comes to count elsewhere -/
def nxF (T : gT) (N : gN) (m : Nat) : Nat → Option Nat
  | 0 => none
  | n + 1 => match nxF T N m n, lvS T N n m with
    | none, y => y
    | some x, none => some x
    | some x, some y => some (min x y)
theorem nxF_s {T : gT} {N : gN} {m n : Nat} : nxF T N m (n + 1) = (match nxF T N m n, lvS T N n m with
    | none, y => y
    | some x, none => some x
    | some x, some y => some (min x y)) := rfl
theorem lvS_le (hV : VT T) (hVN : VN T N) {a m y : Nat} (ha : a < T 0 2) (h : lvS T N a m = some y) : y ≤ 1200 := by
  unfold lvS at h
  split at h
  · cases h
  · cases h
    exact endS_le hV hVN ha (cntS_lt hV hVN ha)
theorem nxF_le (hV : VT T) (hVN : VN T N) {m : Nat} : ∀ {n y : Nat}, n ≤ T 0 2 → nxF T N m n = some y → y ≤ 1200
  | 0, y, _, h => by simp [nxF] at h
  | n + 1, y, hn, h => by
    unfold nxF at h
    cases h1 : nxF T N m n with
    | none =>
      rw [h1] at h
      exact lvS_le hV hVN (by omega) h
    | some x =>
      have h2 := nxF_le hV hVN (by omega) h1
      rw [h1] at h
      cases h3 : lvS T N n m with
      | none => rw [h3] at h; cases h; exact h2
      | some z =>
        rw [h3] at h
        cases h
        omega
theorem q_next_l {m : Nat} (hV : VT T) (hVN : VN T N) (hT : RT 3 T u) (hN : RN 18 T N u) (hm : m < 2 ^ 30) : ∀ (f a : Nat), a ≤ T 0 2 → T 0 2 - a < f → X1_nextChange_l4 u f (nI m) (oI (nxF T N m a)) (nI a) = some (oI (nxF T N m (T 0 2))) := by
  have hna := hV.na
  intro f
  induction f with
  | zero => intro a h1 h2; omega
  | succ f ih =>
    intro a h1 h3
    unfold X1_nextChange_l4 X1_nextChange_b4 X1_nextChange_b40 X1_nextChange_b43
    by_cases h4 : a = T 0 2
    · rw [hT.na, h4, if_pos (Int32.le_refl _)]
    · have ha : a < T 0 2 := by omega
      have e := ih (a + 1) (by omega) (by omega)
      rw [nxF_s] at e
      have h5 := q_leaves hV hT hN hVN ha hm
      cases hl : lvS T N a m with
      | none =>
        rw [hl] at h5 e
        cases hx : nxF T N m a with
        | none =>
          rw [hx] at e
          simp only [oI_none, oI_some] at e
          simp (disch := omega) only [hT.na, h5, oI_none, oI_some, nI_lit, lN_lit, nI_add, pk_mul, lN_add, lN_mul, Option.bind_some, nI_leI, nI_ltI, nI_eq, lN_leI, lN_ltI, lN_eqI, nI_m1, m1_nI, i_modN, lN_modN, nI_64, lN_32, if_pos, if_neg, ↓reduceIte, if_true, if_false]
          exact e
        | some x =>
          rw [hx] at e
          simp only [oI_none, oI_some] at e
          simp (disch := omega) only [hT.na, h5, oI_none, oI_some, nI_lit, lN_lit, nI_add, pk_mul, lN_add, lN_mul, Option.bind_some, nI_leI, nI_ltI, nI_eq, lN_leI, lN_ltI, lN_eqI, nI_m1, m1_nI, i_modN, lN_modN, nI_64, lN_32, if_pos, if_neg, ↓reduceIte, if_true, if_false]
          exact e
      | some y =>
        have hy := lvS_le hV hVN ha hl
        rw [hl] at h5 e
        cases hx : nxF T N m a with
        | none =>
          rw [hx] at e
          simp only [oI_none, oI_some] at e
          simp (disch := omega) only [hT.na, h5, oI_none, oI_some, nI_lit, lN_lit, nI_add, pk_mul, lN_add, lN_mul, Option.bind_some, nI_leI, nI_ltI, nI_eq, lN_leI, lN_ltI, lN_eqI, nI_m1, m1_nI, i_modN, lN_modN, nI_64, lN_32, if_pos, if_neg, ↓reduceIte, if_true, if_false]
          exact e
        | some x =>
          have hx2 := nxF_le hV hVN h1 hx
          rw [hx] at e
          simp only [oI_none, oI_some] at e
          by_cases h6 : x ≤ y
          · rw [Nat.min_eq_left h6] at e
            simp (disch := omega) only [hT.na, h5, oI_none, oI_some, h6, nI_lit, lN_lit, nI_add, pk_mul, lN_add, lN_mul, Option.bind_some, nI_leI, nI_ltI, nI_eq, lN_leI, lN_ltI, lN_eqI, nI_m1, m1_nI, i_modN, lN_modN, nI_64, lN_32, if_pos, if_neg, ↓reduceIte, if_true, if_false]
            exact e
          · rw [Nat.min_eq_right (by omega)] at e
            simp (disch := omega) only [hT.na, h5, oI_none, oI_some, h6, nI_lit, lN_lit, nI_add, pk_mul, lN_add, lN_mul, Option.bind_some, nI_leI, nI_ltI, nI_eq, lN_leI, lN_ltI, lN_eqI, nI_m1, m1_nI, i_modN, lN_modN, nI_64, lN_32, if_pos, if_neg, ↓reduceIte, if_true, if_false]
            exact e
def nxS (T : gT) (N : gN) (m : Nat) : Option Nat := nxF T N m (T 0 2)
theorem q_next {m : Nat} (hV : VT T) (hVN : VN T N) (hT : RT 3 T u) (hN : RN 18 T N u) (hm : m < 2 ^ 30) : X1_nextChange u (nI m) = some (oI (nxS T N m)) := by
  have hna := hV.na
  unfold X1_nextChange nxS
  rw [nI_lit, nI_lit]
  exact q_next_l hV hVN hT hN hm fz 0 (Nat.zero_le _) (fz_lt (by omega))
end CS
